/-! back() and right() of the class -/
theorem sumL_bd (B : Nat) (f : Nat → Int64) : ∀ n, (∀ k, k < n → (f k).toInt.natAbs ≤ B) → n * B < 2 ^ 62 → (sumL f n).toInt.natAbs ≤ n * B
  | 0, _, _ => by
    show ((0 : Int64).toInt).natAbs ≤ 0 * B
    have : (0 : Int64).toInt = 0 := rfl
    rw [this]
    omega
  | n + 1, h, hb => by
    rw [Nat.add_mul, Nat.one_mul] at hb ⊢
    have ih := sumL_bd B f n (fun k hk => h k (by omega)) (by omega)
    have h2 := h n (by omega)
    show ((sumL f n + f n).toInt).natAbs ≤ _
    rw [Int64.toInt_add, Int.bmod_eq_of_le_mul_two (by omega) (by omega)]
    omega
theorem mul_bd (a : Int64) (z : Int) (ha : a.toInt.natAbs ≤ 2 ^ 31) (hz : -3 < z ∧ z < 3) : (a * Int64.ofInt z).toInt.natAbs ≤ 2 ^ 32 := by
  rw [Int64.toInt_mul, Int64.toInt_ofInt_of_le (by omega) (by omega)]
  have : z = -2 ∨ z = -1 ∨ z = 0 ∨ z = 1 ∨ z = 2 := by omega
  rcases this with rfl | rfl | rfl | rfl | rfl <;> (rw [Int.bmod_eq_of_le_mul_two (by omega) (by omega)]; omega)
theorem tv_bd {N : Nat} (hM : 3 ≤ N ∧ N ≤ 60) (t : Nat) {r : Nat → Int64} (hr : ∀ j, j < phi N → (r j).toInt.natAbs ≤ 2 ^ 31) (i : Nat) : (tv N t r i).toInt.natAbs ≤ 58 * 2 ^ 32 := by
  have hp := phi_le N hM.2
  have h1 : phi N * 2 ^ 32 ≤ 58 * 2 ^ 32 := Nat.mul_le_mul_right _ hp
  refine Nat.le_trans (sumL_bd (2 ^ 32) _ (phi N) (fun j hj => ?_) (by omega)) h1
  refine mul_bd _ _ (hr j hj) ?_
  rw [← pw_mod N hM.2 hM.1]
  exact pw_small N _ i hM.2 hM.1 (Nat.mod_lt _ (by omega))
theorem TBv_sum {N : Nat} (hM : 3 ≤ N ∧ N ≤ 60) (R : Nat → Nat → Int64) (f i : Nat) (g : Nat → Int64) : ∀ m, redV N (tbF N R f m g) i = redV N g i + sumL (fun k => tv N (emk N f k) (R k) i) m
  | 0 => by
    show redV N g i = redV N g i + 0
    rw [Int64.add_zero]
  | m + 1 => by
    show redV N (gaF (fun j => (emk N f m + j) % N) (R m) (phi N) (tbF N R f m g)) i = redV N g i + (sumL (fun k => tv N (emk N f k) (R k) i) m + tv N (emk N f m) (R m) i)
    rw [red_ga N i _ _ _ _ (fun j _ => Nat.mod_lt _ (by omega)), TBv_sum hM R f i g m, Int64.add_assoc]
    congr 2
    unfold tv
    exact sumL_congr _ (fun j _ => by rw [pw_mod N hM.2 hM.1])
theorem TBv_bd {N : Nat} (hM : 3 ≤ N ∧ N ≤ 60) {R : Nat → Nat → Int64} (hr : ∀ k j, k < N → j < phi N → (R k j).toInt.natAbs ≤ 2 ^ 31) (f : Nat) : Bd (phi N) (TBv N R f) := fun i hi => by
  unfold TBv
  rw [TBv_sum hM, red_Z, Int64.zero_add]
  have h1 : N * (58 * 2 ^ 32) ≤ 60 * (58 * 2 ^ 32) := Nat.mul_le_mul_right _ hM.2
  have := sumL_bd (58 * 2 ^ 32) (fun k => tv N (emk N f k) (R k) i) N (fun k hk => tv_bd hM _ (fun j hj => hr k j hk hj) i) (by omega)
  omega
theorem ShIs.bd2 {w : ab_W} {q N a : Nat} {R : Nat → Nat → Int64} (h : ShIs w q N a R) : ∀ k j, k < N → j < phi N → (R k j).toInt.natAbs ≤ 2 ^ 31 := by
  obtain ⟨-, ⟨f, -, hf⟩, -⟩ := h
  intro k i hk hi
  rw [← hf k i hk hi, Int32.toInt_toInt64]
  have h1 := Int32.le_toInt (f (k * phi N + i))
  have h2 := Int32.toInt_lt (f (k * phi N + i))
  omega
/-- how many arms go with arm f at point k -/
def alM (N : Nat) (A : Nat → Nat → Int64) (k f : Nat) : Nat := if thB N (A f) = true then cnt (fun g => lkB (phi N) (tv N (f * k) (A f)) (tv N (g * k) (A g))) N else 0
theorem tv_lk {N t : Nat} {x y : Nat → Int64} (h : Lk (phi N) x y) : Lk (phi N) (tv N t x) (tv N t y) := fun _ _ => tv_congr h
theorem alV_alM {N K : Nat} {G : Nat → Int64} {kd td : Nat → Int32} {A : Nat → Nat → Int64} (hM : 3 ≤ N ∧ N ≤ 60) (hK : K ≤ 120) (hD : Dist N K G) (hs : ∀ f, f < N → SltIs N K G kd td f (A f)) (hB : ∀ f, f < N → Bd (phi N) (A f)) : (∀ f, f < N → decide (kd f = nI 0) = !thB N (A f)) ∧ ∀ k f, k < N → f < N → alV N kd td k f = alM N A k f := by
  have h0 : ∀ f, f < N → (kd f = nI 0 ↔ thB N (A f) = false) := by
    intro f hf
    rcases hs f hf with ⟨a, b⟩ | ⟨a, c, t, c1, c2, c3, c4, c5, c6⟩
    · exact ⟨fun _ => wh_th.mpr a, fun _ => b⟩
    · constructor
      · intro z
        rw [c3] at z
        have := (nI_eq (by omega) (by omega)).mp z
        omega
      · intro z
        exact absurd (wh_th.mp z) a
  refine ⟨fun f hf => ?_, fun k f hk hf => ?_⟩
  · cases h : thB N (A f)
    · exact decide_eq_true ((h0 f hf).mpr h)
    · exact decide_eq_false (fun z => by have := (h0 f hf).mp z; rw [h] at this; cases this)
  · unfold alV alM
    cases h : thB N (A f)
    · rw [if_pos ((h0 f hf).mpr h), if_neg (by decide)]
    · rw [if_neg (fun z => by have := (h0 f hf).mp z; rw [h] at this; cases this), if_pos rfl]
      refine cnt_congr _ (fun g hg => ?_)
      have hfk : f * k ≤ 60 * 60 := Nat.mul_le_mul (by omega) (by omega)
      have hgk : g * k ≤ 60 * 60 := Nat.mul_le_mul (by omega) (by omega)
      have ht : ((nI g - nI f) * nI k).toInt = ((g * k : Nat) : Int) - ((f * k : Nat) : Int) := by
        rw [Int32.sub_mul, pk_mul, pk_mul, pk_sub_toInt (by omega) (by omega)]
      have e1 := slot_turn (t := (nI g - nI f) * nI k) hM hK hD (hs f hf) (hs g hg) (hB f hf) (by rw [ht]; omega)
      rw [e1, ht, Bool.eq_iff_iff, lkB_iff, lkB_iff]
      have hmd : (md (((g * k : Nat) : Int) - ((f * k : Nat) : Int)) N + f * k) % N = (g * k) % N := by
        rw [md_add (by omega), show ((f * k : Nat) : Int) + (((g * k : Nat) : Int) - ((f * k : Nat) : Int)) = ((g * k : Nat) : Int) by omega, md_nat]
      have hu := md_lt (((g * k : Nat) : Int) - ((f * k : Nat) : Int)) (show 0 < N by omega)
      generalize md (((g * k : Nat) : Int) - ((f * k : Nat) : Int)) N = u at *
      have e2 : ∀ i, i < phi N → tv N (f * k) (tv N u (A g)) i = tv N (g * k) (A g) i := fun i hi => by
        rw [tv_add hM.2 hM.1 _ _ _ i hi, Nat.add_comm]
        exact tv_eqm hM.2 hM.1 hmd _ _
      constructor
      · intro z
        exact (tv_lk z).trans e2
      · intro z
        have z2 : Lk (phi N) (tv N (f * k) (A f)) (tv N (f * k) (tv N u (A g))) := z.trans (fun i hi => (e2 i hi).symm)
        have z3 : Lk (phi N) (tv N ((f * k) % N) (A f)) (tv N ((f * k) % N) (tv N u (A g))) := fun i hi => by
          rw [tv_mod hM.2 hM.1, tv_mod hM.2 hM.1]
          exact z2 i hi
        have hlt : (f * k) % N < N := Nat.mod_lt _ (by omega)
        have q1 := tv_back hM.2 hM.1 (by omega) z3
        refine q1.trans (fun i hi => ?_)
        rw [tv_add hM.2 hM.1 _ _ _ i hi, show N - f * k % N + f * k % N = N by omega, tv_N hM.2 hM.1 _ i hi]
def KT (w : ab_W) (kp ch cs : Int32) (arm : Nat → Int32) (sp : Nat → Int64) (pl : Nat → Int32) (c32 : Nat → Int64) : Prop := (∃ n0 p0 mo ma, w 27 = oTold n0 p0 kp ch cs mo ma) ∧ (∃ g, w 28 = aJ 3480 g) ∧ w 29 = aI 60 arm ∧ w 30 = aJ 60 sp ∧ w 31 = aI 60 pl ∧ w 32 = aJ 58 c32
theorem KT.fr {F : Nat → Prop} {w w' : ab_W} {kp ch cs : Int32} {arm : Nat → Int32} {sp : Nat → Int64} {pl : Nat → Int32} {c32 : Nat → Int64} (h : KT w kp ch cs arm sp pl c32) (hf : Fr F w w') (hF : ∀ k, F k → ¬ (27 ≤ k ∧ k ≤ 32)) : KT w' kp ch cs arm sp pl c32 := by
  obtain ⟨⟨n0, p0, mo, ma, h0⟩, ⟨g, h1⟩, h2, h3, h4, h5⟩ := h
  have q : ∀ k, (27 ≤ k ∧ k ≤ 32) → ¬ F k := fun k a b => hF k b a
  exact ⟨⟨n0, p0, mo, ma, hf.get h0 (q _ (by omega))⟩, ⟨g, hf.get h1 (q _ (by omega))⟩, hf.get h2 (q _ (by omega)), hf.get h3 (q _ (by omega)), hf.get h4 (q _ (by omega)), hf.get h5 (q _ (by omega))⟩
abbrev FK (k : Nat) : Prop := (17 ≤ k ∧ k ≤ 32)
theorem FK_FS (k : Nat) (h : FK k) : ¬ FS k := by unfold FS; omega
theorem KC.fk {w w' : ab_W} {n kn ks : Nat} {lf : Int32} {N : Nat → Nat} {R : Nat → Nat → Nat → Int64} (h : KC w n kn ks lf N R) (hf : Fr FK w w') (hs : KS0 w') (ho : KO w') : KC w' n kn ks lf N R := by
  obtain ⟨⟨h0, hK, hS, g, h43⟩, -⟩ := h
  exact ⟨⟨hf.get h0 (by omega), hs, hS.fr hf (fun k hk => ⟨by omega, FK_FS k hk⟩) (Nat.le_refl _), g, hf.get h43 (by omega)⟩, ho⟩
section WTOLD
variable {X : ab_X} {l : Launch}
theorem k_WP_back_n (x : Int32) (w : ab_W) (n : Nat) {N : Nat → Nat} {R : Nat → Nat → Nat → Int64} {kn ks : Nat} {lf : Int32} (hx : badS N x) (h : KB w n kn ks lf N R) : ab_C X l i_WP_back [.ref 0, .int x] w n 0 0 (ab_q1 (some (.int (-nI 1))) w n) := by
  obtain ⟨h0, hK, hS, g, h43⟩ := h
  obtain ⟨w, rfl⟩ := va_ex h0
  refine ab_metI cd_135 om_135 rfl (ab_sound ok_135 [] 80 ?_)
  (refine Exists.intro 0 ?_; refine ⟨0, _, Nat.zero_le _, Nat.zero_le _, k_sheetThatIs_n _ _ _ hx h0 hS, ?_⟩; refine ab_q1_elim ?_)
  exact ⟨rfl, rfl, rfl⟩
theorem k_WP_right_n (x : Int32) (w : ab_W) (n : Nat) {N : Nat → Nat} {R : Nat → Nat → Nat → Int64} {kn ks : Nat} {lf : Int32} (hx : badS N x) (h : KB w n kn ks lf N R) : ab_C X l i_WP_right [.ref 0, .int x] w n 0 0 (ab_q1 (some (.int (-nI 1))) w n) := by
  obtain ⟨h0, hK, hS, g, h43⟩ := h
  obtain ⟨w, rfl⟩ := va_ex h0
  refine ab_metI cd_137 om_137 rfl (ab_sound ok_137 [] 80 ?_)
  (refine Exists.intro 0 ?_; refine ⟨0, _, Nat.zero_le _, Nat.zero_le _, k_sheetThatIs_n _ _ _ hx h0 hS, ?_⟩; refine ab_q1_elim ?_)
  exact ⟨rfl, rfl, rfl⟩
theorem k_WP_back (x : Int32) (t : Nat) (w : ab_W) (n : Nat) {N : Nat → Nat} {R : Nat → Nat → Nat → Int64} {kn ks : Nat} {lf kp ch cs : Int32} {arm pl : Nat → Int32} {sp c32 : Nat → Int64} (hx : x = nI t) (ht : t < 8) (hN : N t ≠ 0) (h : KC w n kn ks lf N R) (hT : KT w kp ch cs arm sp pl c32) :
    ab_C X l i_WP_back [.ref 0, .int x] w n 0 0 (qI (nI (cnt (fun f => thB (N t) (TBv (N t) (R t) f)) (N t))) fun w' n' => n = n' ∧ Fr FK w w' ∧ KC w' n' kn ks lf N R ∧ ∃ arm' sp' pl', KT w' (nI (cnt (fun f => thB (N t) (TBv (N t) (R t) f)) (N t))) ch cs arm' sp' pl' c32 ∧ KeptIs (N t) (TBv (N t) (R t)) (N t) arm' sp' pl') := by
  have hh := h
  obtain ⟨⟨h0, hK, hS, g0, h43⟩, hO⟩ := h
  obtain ⟨aa, hA, hM⟩ := hS.is ht hN
  obtain ⟨⟨n0, p0, mo, ma, t27⟩, ⟨g, t28⟩, t29, t30, t31, t32⟩ := hT
  generalize hMe : N t = M at *
  obtain ⟨w9, rfl⟩ := va_ex2 h0 t27
  refine ab_mqI cd_135 om_135 rfl (ab_sound ok_135 [] 80 ?_)
  (refine Exists.intro 0 ?_; refine ⟨0, _, Nat.zero_le _, Nat.zero_le _, k_sheetThatIs_y _ t _ _ hx ht (by omega) h0 hS, ?_⟩; refine ab_q1_elim ?_)
  (refine Exists.intro 0 ?_; refine ⟨0, _, Nat.zero_le _, Nat.zero_le _, k_readBack _ aa M _ _ hM hA hK rfl t28, ?_⟩; rintro _ w1 _ ⟨rfl, rfl, e1, e2, e3, g1, e4, e5⟩)
  have hw0 : w1 0 = oWP kn ks lf := e1.get rfl (by omega)
  have t29b := e1.get t29 (by omega)
  have t30b := e1.get t30 (by omega)
  have t31b := e1.get t31 (by omega)
  have t32b := e1.get t32 (by omega)
  obtain ⟨w1, rfl⟩ := va_ex2 hw0 e3
  (refine Exists.intro 0 ?_; refine ⟨0, _, Nat.zero_le _, Nat.zero_le _, k_keep M _ _ hM e3 e4 e5 t29b t30b t31b, ?_⟩; rintro _ w2 _ ⟨rfl, rfl, f1, f2, arm', sp', pl', f3, f4, f5, f6⟩)
  have hw02 : w2 0 = oWP kn ks lf := f1.get rfl (by omega)
  have f9 := e1.tr (H := FK) f1 (fun k hk => by omega) (fun k hk => by omega)
  have hKC := hh.fk f9 (Or.inr ⟨M, e2.fr f1 (by omega) (by omega) (by omega)⟩) (hO.fr (e1.tr (H := fun k => FB k ∨ k = 27 ∨ (29 ≤ k ∧ k ≤ 31)) f1 (fun k hk => Or.inl hk) (fun k hk => Or.inr hk)) (fun k hk => by omega))
  have t28c := f1.get e4 (by omega)
  have t32c := f1.get t32b (by omega)
  obtain ⟨w2, rfl⟩ := va_ex2 hw02 f2
  exact ⟨rfl, rfl, f9, hKC, arm', sp', pl', ⟨⟨_, _, _, _, f2⟩, ⟨_, t28c⟩, f3, f4, f5, t32c⟩, f6⟩
theorem k_WP_right (x : Int32) (t : Nat) (w : ab_W) (n : Nat) {N : Nat → Nat} {R : Nat → Nat → Nat → Int64} {kn ks : Nat} {lf kp ch cs : Int32} {arm pl : Nat → Int32} {sp c32 : Nat → Int64} (hx : x = nI t) (ht : t < 8) (hN : N t ≠ 0) (h : KC w n kn ks lf N R) (hT : KT w kp ch cs arm sp pl c32) :
    ab_C X l i_WP_right [.ref 0, .int x] w n 0 0 (fun v w' n' => n = n' ∧ ∃ (b : Nat) (o : Option Nat) (cs' : Int32) (c : Nat → Int64), v = some (.int (nI (N t) - nI b)) ∧ ScIs (cnt (fun f => !thB (N t) (TBv (N t) (R t) f)) (N t)) (aX (N t) (alM (N t) (TBv (N t) (R t)))) (N t * N t) b o ∧ Fr FK w w' ∧ KC w' n' kn ks lf N R ∧ KT w' kp (chV (N t) o) cs' arm sp pl c ∧ ∀ y, o = some y → cs' = nI (phi (N t)) ∧ ∀ i, i < phi (N t) → c i = R t (y / N t) i - tv (N t) (y % N t * (y / N t)) (TBv (N t) (R t) (y % N t)) i) := by
  have hh := h
  obtain ⟨⟨h0, hK, hS, g0, h43⟩, hO⟩ := h
  obtain ⟨aa, hA, hM⟩ := hS.is ht hN
  obtain ⟨⟨n0, p0, mo, ma, t27⟩, ⟨g, t28⟩, t29, t30, t31, t32⟩ := hT
  generalize hMe : N t = M at *
  have hp := phi_le M hM.2
  have hO' := hO
  obtain ⟨⟨oa, ob, oc, h20⟩, -⟩ := hO
  obtain ⟨w9, rfl⟩ := va_ex3 h0 t27 h20
  refine ab_met cd_137 om_137 rfl (by rintro _ _ _ ⟨-, b, o, cs', c, rfl, -⟩; trivial) (ab_sound ok_137 [37] 80 ?_)
  (refine Exists.intro 0 ?_; refine ⟨0, _, Nat.zero_le _, Nat.zero_le _, k_sheetThatIs_y _ t _ _ hx ht (by omega) h0 hS, ?_⟩; refine ab_q1_elim ?_)
  (refine Exists.intro 0 ?_; refine ⟨0, _, Nat.zero_le _, Nat.zero_le _, k_readBack _ aa M _ _ hM hA hK rfl t28, ?_⟩; rintro _ w1 _ ⟨rfl, rfl, e1, e2, e3, g1, e4, e5⟩)
  have hw0 : w1 0 = oWP kn ks lf := e1.get rfl (by omega)
  have hw20 : w1 20 = oOrb oa ob oc := e1.get rfl (by omega)
  have t29b := e1.get t29 (by omega)
  have t30b := e1.get t30 (by omega)
  have t31b := e1.get t31 (by omega)
  have t32b := e1.get t32 (by omega)
  have hO1 : KO w1 := hO'.fr e1 (fun k hk => by omega)
  obtain ⟨G, kd, td, hO2, h22⟩ := hO1.begun M
  have f2 : Fr (fun k => k = 20) w1 (va_up w1 20 (oOrb (nI M) (nI (phi M)) (nI 0))) := Fr.refl.up rfl
  have f12 := e1.tr (H := FK) f2 (fun k hk => by omega) (fun k hk => by omega)
  have hS2 := e2.fr f2 (by omega) (by omega) (by omega)
  have q0 := f2.get hw0 (by omega)
  have q27 := f2.get e3 (by omega)
  have q28 := f2.get e4 (by omega)
  have q29 := f2.get t29b (by omega)
  have q30 := f2.get t30b (by omega)
  have q31 := f2.get t31b (by omega)
  have q32 := f2.get t32b (by omega)
  generalize hW2 : va_up w1 20 (oOrb (nI M) (nI (phi M)) (nI 0)) = W2 at *
  generalize hAe : TBv M (R t) = A at *
  have hbd : ∀ f, Bd (phi M) (A f) := fun f => by rw [← hAe]; exact TBv_bd hM hA.bd2 f
  have loop : ∀ f, f ≤ M → ∀ w3 K3 G3 kd3 td3, Fr FO W2 w3 → OrbW w3 M K3 G3 kd3 td3 → OrbP M 0 G kd td 0 f K3 G3 kd3 td3 A → ab_Ev X l i_WP_right 37 [some (.ref 0), some (.int x), some (.ref (74 + 2 * t)), some (.int (nI f))] [] w3 n 0 0 (fun v w' n' => n = n' ∧ ∃ (b : Nat) (o : Option Nat) (cs' : Int32) (c : Nat → Int64), v = some (.int (nI M - nI b)) ∧ ScIs (cnt (fun f => !thB M (A f)) M) (aX M (alM M A)) (M * M) b o ∧ Fr FK (va_up (va_up (va_up w9 20 (oOrb oa ob oc)) 27 (oTold n0 p0 kp ch cs mo ma)) 0 (oWP kn ks lf)) w' ∧ KC w' n' kn ks lf N R ∧ KT w' kp (chV M o) cs' arm sp pl c ∧ ∀ y, o = some y → cs' = nI (phi M) ∧ ∀ i, i < phi M → c i = R t (y / M) i - tv M (y % M * (y / M)) (A (y % M)) i) := by
    refine ab_up M ?_ (fun f hf ih => ?_)
    · intro w3 K3 G3 kd3 td3 hf hO3 hP3
      have f13 := f12.tr (H := FK) hf (fun k hk => hk) (fun k hk => by omega)
      have hA3 := hA.frS f13 FK_FS
      have hS3 := hS2.fr hf (by omega) (by omega) (by omega)
      have k0 := hf.get q0 (by omega)
      have k27 := hf.get q27 (by omega)
      have k28 := hf.get q28 (by omega)
      have k29 := hf.get q29 (by omega)
      have k30 := hf.get q30 (by omega)
      have k31 := hf.get q31 (by omega)
      have k32 := hf.get q32 (by omega)
      have hK3 := hP3.2.1
      have h223 : ∃ f, w3 22 = aJ 58 f := by
        obtain ⟨f, z⟩ := h22
        exact ⟨f, hf.get z (by omega)⟩
      obtain ⟨a1, a2⟩ := alV_alM hM (show K3 ≤ 120 by omega) hP3.2.2.1 hP3.at0 (fun f _ => hbd f)
      obtain ⟨o1, o2, o3, o4, o5, o6⟩ := id hO3
      obtain ⟨w3, rfl⟩ := va_ex3 k0 k27 o1
      refine ab_sound ok_137 [37] 80 ?_
      refine Exists.intro _ (Exists.intro _ (And.intro (hA3.1) (And.intro rfl ?_)))
      refine And.intro (fun _ => ?_) (fun h_9 => absurd (nI_le (Nat.le_refl _) (by omega)) h_9)
      (refine Exists.intro 0 ?_; refine ⟨0, _, Nat.zero_le _, Nat.zero_le _, k_putRight _ aa M _ _ hS3 hA3 k27 k28 e5 k32 o1 o5 o6, ?_⟩; rintro _ w4 _ ⟨rfl, b, o, cs', mo', ma', rfl, hs, f4, hS4, h4, c, h5, h6⟩)
      rw [cnt_congr M a1] at hs
      have hs2 := hs.congr (a2 := aX M (alM M A)) (fun x hx => a2 _ _ (Nat.div_lt_of_lt_mul hx) (Nat.mod_lt _ (by omega)))
      have f14 := f13.tr (H := FK) f4 (fun k hk => hk) (fun k hk => by omega)
      refine ⟨rfl, b, o, cs', c, rfl, hs2, f14, hh.fk f14 (Or.inr ⟨M, hS4⟩) ((hO3.ko h223).fr f4 (fun k hk => by omega)), ⟨⟨_, _, _, _, h4⟩, ⟨_, f4.get k28 (by omega)⟩, f4.get k29 (by omega), f4.get k30 (by omega), f4.get k31 (by omega), h5⟩, h6⟩
    · intro w3 K3 G3 kd3 td3 hfr hO3 hP3
      have f13 := f12.tr (H := FK) hfr (fun k hk => hk) (fun k hk => by omega)
      have hA3 := hA.frS f13 FK_FS
      have hS3 := hS2.fr hfr (by omega) (by omega) (by omega)
      have k0 := hfr.get q0 (by omega)
      have k27 := hfr.get q27 (by omega)
      have k28 := hfr.get q28 (by omega)
      have hK3 := hP3.2.1
      have hkp := kp_le hM hf
      obtain ⟨w3, rfl⟩ := va_ex3 k0 k27 hO3.1
      refine ab_sound ok_137 [37] 80 ?_
      refine Exists.intro _ (Exists.intro _ (And.intro (hA3.1) (And.intro rfl ?_)))
      refine And.intro (fun h_9 => absurd h_9 (nI_ge hf (by omega))) (fun _ => ?_)
      refine Exists.intro _ (Exists.intro _ (And.intro (hA3.1) (And.intro rfl ?_)))
      (refine Exists.intro 0 ?_; refine ⟨0, _, Nat.zero_le _, Nat.zero_le _, k_place_28 _ _ f (f * phi M) M K3 _ _ (r := A f) rfl (pk_mul _ _) (by omega) (by omega) hkp hS3 hO3 k28 hP3.2.2.1 (fun i hi => e5 f i hf hi), ?_⟩; rintro _ w4 _ ⟨rfl, rfl, f4, K4, G4, kd4, td4, hO4, hP4⟩)
      have hP5 : OrbP M K3 G3 kd3 td3 (0 + f) 1 K4 G4 kd4 td4 (fun _ => A f) := by rw [Nat.zero_add]; exact hP4
      exact ab_ev_of (ih w4 K4 G4 kd4 td4 (hfr.trans f4) hO4 (hP3.step hP5 rfl)) (by rw [nI_s f]; rfl) rfl rfl
  have fin := loop 0 (by omega) W2 0 G kd td Fr.refl hO2 (OrbP.nil (Dist0 M G))
  subst hW2
  obtain ⟨-, c, F, s1, s2, s3, s4⟩ := id e2
  obtain ⟨w1, rfl⟩ := va_ex3 hw0 hw20 s1
  (refine Exists.intro 0 ?_; refine ⟨0, _, Nat.zero_le _, Nat.zero_le _, c_begin _ _ rfl rfl, ?_⟩; refine ab_q1_elim ?_)
  exact ab_ev_of fin rfl rfl rfl
theorem c_WP_wrong (w : ab_W) (n : Nat) {kn ks : Nat} {lf a b kp ch cs mo ma : Int32} (h0 : w 0 = oWP kn ks lf) (h27 : w 27 = oTold a b kp ch cs mo ma) : ab_C X l i_WP_wrong [.ref 0] w n 0 0 (ab_q1 (some (.int ch)) w n) := by
  obtain ⟨w, rfl⟩ := va_ex2 h0 h27
  refine ab_metI cd_138 om_138 rfl (ab_sound ok_138 [] 80 ?_)
  exact ⟨rfl, rfl, rfl⟩
/-- what backAt() answers -/
def bkV (y : Int32) (a : Int32) (s : Int64) (p : Int32) : Int64 := if y = nI 0 then a.toInt64 else if y = nI 1 then s else if y = nI 2 then p.toInt64 else -lN 1
theorem c_WP_backAt (x y : Int32) (i m : Nat) (w : ab_W) (n : Nat) {kn ks : Nat} {lf a b ch cs mo ma : Int32} {arm pl : Nat → Int32} {sp : Nat → Int64} (hx : x = nI i) (hi : i < m) (hm : m ≤ 60) (h0 : w 0 = oWP kn ks lf) (h27 : w 27 = oTold a b (nI m) ch cs mo ma) (h29 : w 29 = aI 60 arm) (h30 : w 30 = aJ 60 sp) (h31 : w 31 = aI 60 pl) : ab_C X l i_WP_backAt [.ref 0, .int x, .int y] w n 0 0 (ab_q1 (some (.long (bkV y (arm i) (sp i) (pl i)))) w n) := by
  subst hx
  obtain ⟨w, rfl⟩ := va_ex5 h0 h27 h29 h30 h31
  refine ab_metL cd_136 om_136 rfl rfl (ab_sound ok_136 [] 80 ?_)
  refine And.intro (fun h_9 => absurd h_9 (nI_pos (by omega))) (fun _ => ?_)
  refine And.intro (fun _ => ?_) (fun h_9 => absurd (nI_lt hi (by omega)) h_9)
  unfold bkV
  refine And.intro (fun e0 => ?_) (fun e0 => And.intro (fun e1 => ?_) (fun e1 => And.intro (fun e2 => ?_) (fun e2 => ?_)))
  · refine And.intro (vp_in_nI (by omega) (by omega)) ?_
    rw [nI_clamp (by omega), if_pos e0]
    exact ⟨rfl, rfl, rfl⟩
  · refine And.intro (vp_in_nI (by omega) (by omega)) ?_
    rw [nI_clamp (by omega), if_neg e0, if_pos e1]
    exact ⟨rfl, rfl, rfl⟩
  · refine And.intro (vp_in_nI (by omega) (by omega)) ?_
    rw [nI_clamp (by omega), if_neg e0, if_neg e1, if_pos e2]
    exact ⟨rfl, rfl, rfl⟩
  · rw [if_neg e0, if_neg e1, if_neg e2]
    exact ⟨rfl, rfl, rfl⟩
theorem c_WP_backAt_n (x y : Int32) (w : ab_W) (n : Nat) {kn ks : Nat} {lf a b kp ch cs mo ma : Int32} (hx : x < 0 ∨ kp ≤ x) (h0 : w 0 = oWP kn ks lf) (h27 : w 27 = oTold a b kp ch cs mo ma) : ab_C X l i_WP_backAt [.ref 0, .int x, .int y] w n 0 0 (ab_q1 (some (.long (-lN 1))) w n) := by
  obtain ⟨w, rfl⟩ := va_ex2 h0 h27
  refine ab_metL cd_136 om_136 rfl rfl (ab_sound ok_136 [] 80 ?_)
  refine And.intro (fun e => ?_) (fun e => ?_)
  · exact ⟨rfl, rfl, rfl⟩
  · refine And.intro (fun h_9 => absurd h_9 ((by have := hx.resolve_left e; rw [i32_le] at this; rw [i32_lt]; omega))) (fun _ => ?_)
    exact ⟨rfl, rfl, rfl⟩
theorem k_WP_rightAt (x : Int32) (i m : Nat) (w : ab_W) (n : Nat) {mc ms : Nat} {kn ks : Nat} {lf a b kp ch mo ma : Int32} {c32 : Nat → Int64} (hx : x = nI i) (hi : i < m) (hm : m ≤ 58) (hch : ch ≠ -nI 1) (h0 : w 0 = oWP kn ks lf) (h27 : w 27 = oTold a b kp ch (nI m) mo ma) (h32 : w 32 = aJ 58 c32) :
    ab_Ev X l i_WP_rightAt 0 (ab_en (ab_mx i_WP_rightAt) [.ref 0, .int x]) [] w n mc ms (ab_q1 (some (.long (c32 i))) w n) := by
  subst hx
  obtain ⟨w, rfl⟩ := va_ex3 h0 h27 h32
  refine ab_sound ok_147 [] 80 ?_
  refine And.intro (fun h_9 => absurd h_9 (hch)) (fun _ => ?_)
  refine And.intro (fun h_9 => absurd h_9 (nI_pos (by omega))) (fun _ => ?_)
  refine And.intro (fun _ => ?_) (fun h_9 => absurd (nI_lt hi (by omega)) h_9)
  refine And.intro (vp_in_nI (by omega) (by omega)) ?_
  rw [nI_clamp (by omega)]
  exact ⟨rfl, rfl, rfl⟩
theorem k_WP_rightAt_n (x : Int32) (w : ab_W) (n : Nat) {kn ks : Nat} {lf a b kp ch cs mo ma : Int32} (hx : ch = -nI 1 ∨ x < 0 ∨ cs ≤ x) (h0 : w 0 = oWP kn ks lf) (h27 : w 27 = oTold a b kp ch cs mo ma) :
    ab_Ev X l i_WP_rightAt 0 (ab_en (ab_mx i_WP_rightAt) [.ref 0, .int x]) [] w n 1 6 (ab_q1 (some (.retAddr 7777)) w n) := by
  obtain ⟨w, rfl⟩ := va_ex2 h0 h27
  refine ab_sound ok_147 [] 80 ?_
  refine And.intro (fun e => ?_) (fun e => ?_)
  · exact ⟨⟨by omega, by omega⟩, rfl, rfl, rfl⟩
  · refine And.intro (fun e1 => ?_) (fun e1 => ?_)
    · exact ⟨⟨by omega, by omega⟩, rfl, rfl, rfl⟩
    · refine And.intro (fun h_9 => absurd h_9 ((by have := (hx.resolve_left e).resolve_left e1; rw [i32_le] at this; rw [i32_lt]; omega))) (fun _ => ?_)
      exact ⟨⟨by omega, by omega⟩, rfl, rfl, rfl⟩
end WTOLD
