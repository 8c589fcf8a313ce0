/-! raw sums: only the places below 60 count -/
def Z0 : Nat → Int64 := fun _ => 0
def E60 (f g : Nat → Int64) : Prop := ∀ j, j < 60 → f j = g j
theorem e60_zb (f : Nat → Int64) : E60 (zb 60 f) Z0 := fun j hj => by unfold zb Z0; rw [if_pos hj]
theorem e60_upd {f g : Nat → Int64} (h : E60 f g) {i i2 : Nat} {v v2 : Int64} (hi : i = i2) (hv : v = v2) : E60 (vp_updL f i v) (vp_updL g i2 v2) := fun j hj => by
  subst hi
  unfold vp_updL
  by_cases e : j = i
  · rw [if_pos e, if_pos e, hv]
  · rw [if_neg e, if_neg e]; exact h j hj
theorem e60_ga {ix ix2 : Nat → Nat} {v v2 : Nat → Int64} {f g : Nat → Int64} (h : E60 f g) : ∀ m, (∀ j, j < m → ix j < 60 ∧ ix j = ix2 j ∧ v j = v2 j) → E60 (gaF ix v m f) (gaF ix2 v2 m g)
  | 0, _ => h
  | m + 1, hx => by
    have ih := e60_ga h m (fun j hj => hx j (by omega))
    obtain ⟨a, b, c⟩ := hx m (by omega)
    unfold gaF
    exact e60_upd ih b (by rw [← b, ih _ a, c])
theorem e60_gp {ix ix2 : Nat → Nat → Nat} {v v2 : Nat → Nat → Int64} {f g : Nat → Int64} (h : E60 f g) (p : Nat) : ∀ m, (∀ i j, i < m → j < p → ix i j < 60 ∧ ix i j = ix2 i j ∧ v i j = v2 i j) → E60 (gpF ix v p m f) (gpF ix2 v2 p m g)
  | 0, _ => h
  | m + 1, hx => by
    unfold gpF
    exact e60_ga (e60_gp h p m (fun i j hi hj => hx i j (by omega) hj)) p (fun j hj => hx m j (by omega) hj)
theorem e60_red {N : Nat} (hN : N ≤ 60) {f g : Nat → Int64} (h : E60 f g) (i : Nat) : redV N f i = redV N g i := sumL_congr N (fun k hk => by rw [h k (by omega)])
/-- a sum with nothing from p on is its own -/
theorem red_lo (N : Nat) (hN : N ≤ 60) (hN3 : 3 ≤ N) {f : Nat → Int64} (hf : ∀ k, phi N ≤ k → k < N → f k = 0) (i : Nat) (hi : i < phi N) : redV N f i = f i := by
  have h3 := phi_lt N hN hN3
  unfold redV
  rw [show N = phi N + (N - phi N) by omega, sumL_split]
  rw [show sumL (fun j => f (phi N + j) * Int64.ofInt (pw (phi N + (N - phi N)) (phi N + j) i)) (N - phi N) = 0 from sumL_zero _ (fun k hk => by rw [hf (phi N + k) (by omega) (by omega), Int64.zero_mul])]
  rw [show phi N + (N - phi N) = N by omega]
  have := val_base N i hi f
  unfold valV at this
  rw [this, Int64.add_zero]
section API1
variable {X : ab_X} {l : Launch}
theorem ShIs.ok {w : ab_W} {q N a : Nat} {R : Nat → Nat → Int64} (h : ShIs w q N a R) : shOk q a := h.2.2
theorem ShIs.frS {F : Nat → Prop} {w w' : ab_W} {q N a : Nat} {R : Nat → Nat → Int64} (h : ShIs w q N a R) (hf : Fr F w w') (hF : ∀ k, F k → ¬ FS k) : ShIs w' q N a R := by
  have h3 := h.ok
  unfold shOk at h3
  refine h.fr hf (fun z => ?_) (fun z => ?_)
  · have := hF _ z
    unfold FS at this
    omega
  · have := hF _ z
    unfold FS at this
    omega
theorem KS0.obj {w : ab_W} (h : KS0 w) : ∃ v p, w 17 = oSums v p := by
  rcases h with ⟨c, f, h1, -⟩ | ⟨N, -, c, f, h1, -⟩
  · exact ⟨_, _, h1⟩
  · exact ⟨_, _, h1⟩
abbrev FR (k : Nat) : Prop := (17 ≤ k ∧ k ≤ 19) ∨ k = 43
theorem FR_FS (k : Nat) (h : FR k) : ¬ FS k := by unfold FS; omega
abbrev FRS (k : Nat) : Prop := FR k ∨ FS k
theorem c_Sheet_fillIfWithin_n (x z : Int32) (q M : Nat) (w : ab_W) (n : Nat) {mc ms : Nat} {g : Nat → Int64} {V : Nat → Nat → Int64} (hx : x = nI M) (hz : z = nI (phi M)) (hM : 3 ≤ M ∧ M ≤ 60) (h43 : w 43 = aJ 3480 g) (hg : Rw M g V) (hV : wiB M V = false) : ab_C X l i_Sheet_fillIfWithin [.ref q, .int x, .int z, .ref 43] w n mc ms (ab_q1 (some (.int (nI 0))) w n) := by
  subst hx hz
  obtain ⟨w, rfl⟩ := va_ex h43
  have hp := phi_le M hM.2
  have hp2 := phi_ge M hM.2 hM.1
  have hMp : M * phi M ≤ 60 * 58 := Nat.mul_le_mul hM.2 hp
  refine ab_metI cd_59 om_59 rfl (ab_sound ok_59 [3] 50 ?_)
  have hV2 : ¬ ∀ m, m < M * phi M → ¬ (1000000 : Int64) < g m ∧ ¬ g m < (-1000000 : Int64) := by
    intro hq
    have : wiB M V = true := decide_eq_true (fun k hk i hi => by
      have h1 : (k + 1) * phi M ≤ M * phi M := Nat.mul_le_mul_right _ (by omega)
      rw [Nat.add_mul] at h1
      have := hq (k * phi M + i) (by omega)
      rwa [hg k i hk hi] at this)
    rw [this] at hV
    cases hV
  have loop : ∀ i, i ≤ M * phi M → (∀ m, m < i → ¬ (1000000 : Int64) < g m ∧ ¬ g m < (-1000000 : Int64)) → ab_Ev X l i_Sheet_fillIfWithin 3 [some (.ref q), some (.int (nI M)), some (.int (nI (phi M))), some (.ref 43), some (.int (nI i))] [] (va_up w 43 (aJ 3480 g)) n mc ms (ab_q1 (some (.int (nI 0))) (va_up w 43 (aJ 3480 g)) n) := by
    refine ab_up (M * phi M) ?_ (fun i hi ih => ?_)
    · exact fun hq => absurd hq hV2
    · intro hm
      refine ab_sound ok_59 [3] 50 ?_
      refine And.intro (fun h_9 => absurd h_9 ((by rw [pk_mul]; exact nI_ge hi (by omega)))) (fun _ => ?_)
      refine And.intro (fun h_9 => absurd h_9 (nI_ge (by omega) (by omega))) (fun _ => ?_)
      refine And.intro (vp_in_nI (by omega) (by omega)) ?_
      rw [nI_clamp (by omega)]
      refine And.intro (fun hc => ?_) (fun hc => ?_)
      · exact ⟨rfl, rfl, rfl, rfl⟩
      · refine And.intro (vp_in_nI (by omega) (by omega)) ?_
        rw [nI_clamp (by omega)]
        refine And.intro (fun hd => ?_) (fun hd => ?_)
        · have hd := lg_ge0.mp hd
          refine ab_ev_of (ih (fun m hm2 => ?_)) (by rw [nI_s i]; rfl) rfl rfl
          by_cases e : m = i
          · rw [e]
            refine ⟨fun z => hc (lg_gt.mpr z), fun z => ?_⟩
            have hd2 : (-1000000 : Int64) ≤ g i := hd
            rw [i64_lt] at z
            rw [i64_le] at hd2
            omega
          · exact hm m (by omega)
        · exact ⟨rfl, rfl, rfl, rfl⟩
  exact loop 0 (by omega) (fun m hm => by omega)
theorem wi_sm {M : Nat} {V : Nat → Nat → Int64} (h : wiB M V = true) : Sm M V := by
  intro k i hk hi
  have := of_decide_eq_true h k hk i hi
  rw [i64_lt, i64_lt] at this
  have h1 : (1000000 : Int64).toInt = 1000000 := rfl
  have h2 : (-1000000 : Int64).toInt = -1000000 := rfl
  apply Int64.toInt_inj.mp
  rw [Int32.toInt_toInt64, Int64.toInt_toInt32, Int.bmod_eq_of_le_mul_two (by omega) (by omega)]
theorem k_fillIfWithin_y (x z : Int32) (t M : Nat) (w : ab_W) (n : Nat) {N : Nat → Nat} {R : Nat → Nat → Nat → Int64} {g : Nat → Int64} {V : Nat → Nat → Int64} (hx : x = nI M) (hz : z = nI (phi M)) (ht : t < 8) (hM : 3 ≤ M ∧ M ≤ 60) (h : KSh w n N R) (h43 : w 43 = aJ 3480 g) (hg : Rw M g V) (hV : wiB M V = true) : ab_C X l i_Sheet_fillIfWithin [.ref (74 + 2 * t), .int x, .int z, .ref 43] w n 1 3480 (qI (nI 1) fun w' n' => n ≤ n' ∧ Fr FS w w' ∧ KSh w' n' (va_up N t M) (va_up R t V)) := by
  subst hx hz
  have hsh : ∃ v p a, w (74 + 2 * t) = oSheet v p a := by
    obtain ⟨b, -, -, -, -, -, h6⟩ := h
    obtain ⟨⟨v, p, k1, k2⟩, -⟩ := h6 t (by omega)
    rw [qp_lt ht] at k1
    exact ⟨v, p, _, k1⟩
  obtain ⟨w, rfl⟩ := va_ex h43
  have hp := phi_le M hM.2
  have hMp : M * phi M ≤ 60 * 58 := Nat.mul_le_mul hM.2 hp
  refine ab_mqI cd_59 om_59 rfl (ab_sound ok_59 [3] 50 ?_)
  have hp2 := phi_ge M hM.2 hM.1
  have hV2 : ∀ m, m < M * phi M → ¬ (1000000 : Int64) < g m ∧ ¬ g m < (-1000000 : Int64) := by
    intro m hm
    have e1 : m / phi M < M := Nat.div_lt_of_lt_mul (by rw [Nat.mul_comm]; exact hm)
    have e2 : m % phi M < phi M := Nat.mod_lt _ (by omega)
    have := of_decide_eq_true hV (m / phi M) e1 (m % phi M) e2
    rwa [← hg _ _ e1 e2, Nat.mul_comm, Nat.div_add_mod] at this
  have loop : ∀ i, i ≤ M * phi M → ab_Ev X l i_Sheet_fillIfWithin 3 [some (.ref (74 + 2 * t)), some (.int (nI M)), some (.int (nI (phi M))), some (.ref 43), some (.int (nI i))] [] (va_up w 43 (aJ 3480 g)) n 1 3480 (qI (nI 1) fun w' n' => n ≤ n' ∧ Fr FS (va_up w 43 (aJ 3480 g)) w' ∧ KSh w' n' (va_up N t M) (va_up R t V)) := by
    refine ab_up (M * phi M) ?_ (fun i hi ih => ?_)
    · refine ab_sound ok_59 [3] 50 ?_
      refine And.intro (fun _ => ?_) (fun h_9 => absurd ((by rw [pk_mul]; exact nI_le (Nat.le_refl _) (by omega))) h_9)
      obtain ⟨v, p, a, k1⟩ := hsh
      refine And.intro (⟨_, k1⟩) ?_
      have := k_fill (X := X) (l := l) (nI M) (nI (phi M)) t M (va_up w 43 (aJ 3480 g)) n (by omega) rfl rfl hM h h43 hg (wi_sm hV)
      rw [qp_lt ht] at this
      (refine Exists.intro 1 ?_; refine ⟨3480, _, by omega, by omega, this, ?_⟩; rintro _ w1 n1 ⟨rfl, e1, e2, e3, -⟩)
      exact ⟨rfl, rfl, e1, e2, e3⟩
    · have hv := hV2 i hi
      refine ab_sound ok_59 [3] 50 ?_
      refine And.intro (fun h_9 => absurd h_9 ((by rw [pk_mul]; exact nI_ge hi (by omega)))) (fun _ => ?_)
      refine And.intro (fun h_9 => absurd h_9 (nI_ge (by omega) (by omega))) (fun _ => ?_)
      refine And.intro (vp_in_nI (by omega) (by omega)) ?_
      rw [nI_clamp (by omega)]
      refine And.intro (fun h_9 => absurd h_9 ((fun z => hv.1 (lg_gt.mp z)))) (fun _ => ?_)
      refine And.intro (vp_in_nI (by omega) (by omega)) ?_
      rw [nI_clamp (by omega)]
      refine And.intro (fun _ => ?_) (fun h_9 => absurd ((lg_ge0.mpr (by have := hv.2; rw [i64_lt] at this; show (-1000000 : Int64) ≤ g i; rw [i64_le]; omega))) h_9)
      exact ab_ev_of ih (by rw [nI_s i]; rfl) rfl rfl
  exact loop 0 (by omega)
/-- what a product's points are -/
def PV (N : Nat) (R S : Nat → Nat → Int64) (k i : Nat) : Int64 := redV N (gpF (fun i j => (i + j) % N) (fun i j => R k i * S k j) (phi N) (phi N) Z0) i
abbrev badS (N : Nat → Nat) (x : Int32) : Prop := (x < 0 ∨ nI 8 ≤ x) ∨ ∃ t, t < 8 ∧ x = nI t ∧ N t = 0
theorem sh_or (N : Nat → Nat) (x : Int32) : (∃ t, t < 8 ∧ x = nI t ∧ N t ≠ 0) ∨ badS N x := by
  rcases in_or 8 (by omega) x with ⟨t, ht, hx⟩ | h
  · by_cases e : N t = 0
    · exact Or.inr (Or.inr ⟨t, ht, hx, e⟩)
    · exact Or.inl ⟨t, ht, hx, e⟩
  · exact Or.inr (Or.inl h)
/-- one more row is stored -/
theorem st_rows {M : Nat} (hM : 3 ≤ M ∧ M ≤ 60) {g f : Nat → Int64} {V : Nat → Nat → Int64} {k : Nat} (hk : k < M) (hg : ∀ j i, j < k → i < phi M → g (j * phi M + i) = V j i) (hf : ∀ i, i < phi M → f i = V k i) : ∀ j i, j < k + 1 → i < phi M → stF (k * phi M) (phi M) f g (j * phi M + i) = V j i := by
  intro j i hj hi
  unfold stF
  by_cases e : j = k
  · subst e
    rw [if_pos (by omega), show j * phi M + i - j * phi M = i by omega]
    exact hf i hi
  · have h1 : (j + 1) * phi M ≤ k * phi M := Nat.mul_le_mul_right _ (by omega)
    rw [Nat.add_mul] at h1
    rw [if_neg (by omega)]
    exact hg j i (by omega) hi
theorem kp_le {M k : Nat} (hM : 3 ≤ M ∧ M ≤ 60) (hk : k < M) : k * phi M + phi M ≤ 3480 := by
  have hp := phi_le M hM.2
  have h1 : (k + 1) * phi M ≤ 60 * phi M := Nat.mul_le_mul_right _ (by omega)
  rw [Nat.add_mul] at h1
  omega
theorem k_WP_product (x y z : Int32) (t u v : Nat) (w : ab_W) (n : Nat) {N : Nat → Nat} {R : Nat → Nat → Nat → Int64} {kn ks : Nat} {lf : Int32} (hx : x = nI t) (hy : y = nI u) (hz : z = nI v) (ht : t < 8) (hu : u < 8) (hv : v < 8) (hN0 : N u ≠ 0) (hNv : N v = N u) (h0 : w 0 = oWP kn ks lf) (hK : KS0 w) (h : KSh w n N R) (h43 : ∃ g, w 43 = aJ 3480 g) :
    ab_C X l i_WP_product [.ref 0, .int x, .int y, .int z] w n 1 3480 (qI (if wiB (N u) (PV (N u) (R u) (R v)) = true then nI (N u) else -nI 2000) fun w' n' => n ≤ n' ∧ Fr FRS w w' ∧ KS0 w' ∧ (∃ g, w' 43 = aJ 3480 g) ∧ KSh w' n' (if wiB (N u) (PV (N u) (R u) (R v)) = true then va_up N t (N u) else N) (if wiB (N u) (PV (N u) (R u) (R v)) = true then va_up R t (PV (N u) (R u) (R v)) else R)) := by
  subst hx hy hz
  obtain ⟨aa, hA, hM⟩ := h.is hu hN0
  obtain ⟨bb, hB, -⟩ := h.is hv (by omega)
  rw [hNv] at hB
  generalize hMe : N u = M at *
  have hgen : ∀ w1, Fr FR w w1 → KSh w1 n N R := fun w1 hf => h.fr hf (fun k hk => ⟨by omega, FR_FS k hk⟩) (Nat.le_refl _)
  have hA1 : ∀ w1, Fr FR w w1 → ShIs w1 (74 + 2 * u) M aa (R u) := fun w1 hf => hA.frS hf FR_FS
  have hB1 : ∀ w1, Fr FR w w1 → ShIs w1 (74 + 2 * v) M bb (R v) := fun w1 hf => hB.frS hf FR_FS
  obtain ⟨v7, p7, h17⟩ := hK.obj
  obtain ⟨w9, rfl⟩ := va_ex2 h0 h17
  refine ab_mqI cd_133 om_133 rfl (ab_sound ok_133 [61] 80 ?_)
  (refine Exists.intro 0 ?_; refine ⟨0, _, Nat.zero_le _, Nat.zero_le _, k_sheetThatIs_y _ u _ _ rfl hu (by omega) h0 h, ?_⟩; refine ab_q1_elim ?_)
  (refine Exists.intro 0 ?_; refine ⟨0, _, Nat.zero_le _, Nat.zero_le _, k_sheetThatIs_y _ v _ _ rfl hv (by omega) h0 h, ?_⟩; refine ab_q1_elim ?_)
  (refine Exists.intro 0 ?_; refine ⟨0, _, Nat.zero_le _, Nat.zero_le _, c_WP_isSheet_y _ t _ _ rfl ht, ?_⟩; refine ab_q1_elim ?_)
  refine And.intro (fun h_9 => absurd h_9 ((by decide))) (fun _ => ?_)
  refine Exists.intro _ (Exists.intro _ (And.intro (hA.1) (And.intro rfl ?_)))
  refine Exists.intro _ (Exists.intro _ (And.intro (hB.1) (And.intro rfl ?_)))
  refine And.intro (fun _ => ?_) (fun h_9 => absurd (rfl) h_9)
  refine Exists.intro _ (Exists.intro _ (And.intro (hA.1) (And.intro rfl ?_)))
  (refine Exists.intro 0 ?_; refine ⟨0, _, Nat.zero_le _, Nat.zero_le _, k_choose _ M _ _ rfl hM.2 hM.1 hK, ?_⟩; rintro _ w1 _ ⟨rfl, rfl, e1, e2⟩)
  obtain ⟨g0, h43⟩ := h43
  have loop : ∀ k, k ≤ M → ∀ w1, Fr FR (va_up (va_up w9 17 (oSums v7 p7)) 0 (oWP kn ks lf)) w1 → KSums w1 M → ∀ g, w1 43 = aJ 3480 g → (∀ j i, j < k → i < phi M → g (j * phi M + i) = PV M (R u) (R v) j i) → ab_Ev X l i_WP_product 61 [some (.ref 0), some (.int (nI t)), some (.int (nI u)), some (.int (nI v)), some (.ref (74 + 2 * u)), some (.ref (74 + 2 * v)), some (.int (nI k))] [] w1 n 1 3480 (qI (if wiB M (PV M (R u) (R v)) = true then nI M else -nI 2000) fun w' n' => n ≤ n' ∧ Fr FRS (va_up (va_up w9 17 (oSums v7 p7)) 0 (oWP kn ks lf)) w' ∧ KS0 w' ∧ (∃ g, w' 43 = aJ 3480 g) ∧ KSh w' n' (if wiB M (PV M (R u) (R v)) = true then va_up N t M else N) (if wiB M (PV M (R u) (R v)) = true then va_up R t (PV M (R u) (R v)) else R)) := by
    refine ab_up M ?_ (fun k hk ih => ?_)
    · intro w1 hf hs g hg hr
      have hKs := hgen w1 hf
      have hw0 : w1 0 = oWP kn ks lf := hf.get rfl (by omega)
      obtain ⟨-, c, f, s1, s2, s3, s4⟩ := id hs
      obtain ⟨gg, a1, a2⟩ : ∃ g : Nat → Option Nat, w1 40 = .inl (3, 8, .inr (.inr (.inr (.inr g)))) ∧ ∀ t, t < 8 → g t = some (74 + 2 * t) := by
        obtain ⟨b, -, ⟨g, h1, h2⟩, -⟩ := hKs
        exact ⟨g, h1, h2⟩
      have hA2 := hA1 w1 hf
      have hsh : ∃ v p a, w1 (74 + 2 * t) = oSheet v p a := by
        obtain ⟨b, -, -, -, -, -, h6⟩ := hKs
        obtain ⟨⟨v, p, k1, k2⟩, -⟩ := h6 t (by omega)
        rw [qp_lt ht] at k1
        exact ⟨v, p, _, k1⟩
      obtain ⟨w1, rfl⟩ := va_ex3 hw0 a1 s1
      refine ab_sound ok_133 [61] 80 ?_
      refine Exists.intro _ (Exists.intro _ (And.intro (hA2.1) (And.intro rfl ?_)))
      refine And.intro (fun _ => ?_) (fun h_9 => absurd (nI_le (Nat.le_refl _) (by omega)) h_9)
      refine And.intro (vp_in_nI ht (by omega)) ?_
      intro z hz
      rw [nI_clamp (by omega), a2 t ht] at hz
      subst hz
      refine Exists.intro _ (Exists.intro _ (And.intro (hA2.1) (And.intro rfl ?_)))
      obtain ⟨v0, p0, a0, k1⟩ := hsh
      refine And.intro (⟨_, k1⟩) ?_
      by_cases hb : wiB M (PV M (R u) (R v)) = true
      · (refine Exists.intro 1 ?_; refine ⟨3480, _, by omega, by omega, k_fillIfWithin_y _ _ t M _ _ rfl rfl ht hM hKs hg hr hb, ?_⟩; rintro _ w2 n2 ⟨rfl, b1, b2, b3⟩)
        have hs2 := hs.fr b2 (by unfold FS; omega) (by unfold FS; omega) (by unfold FS; omega)
        have hw2 : w2 0 = oWP kn ks lf := b2.get rfl (by unfold FS; omega)
        have h432 := b2.get hg (by unfold FS; omega)
        obtain ⟨-, c2, f2, d1, -⟩ := id hs2
        have e9 := (hf.mono (G := FRS) (fun k hk => Or.inl hk)).trans (b2.mono (fun k hk => Or.inr hk))
        obtain ⟨w2, rfl⟩ := va_ex2 hw2 d1
        refine And.intro (fun h_9 => absurd h_9 ((by decide))) (fun _ => ?_)
        rw [hb]
        exact ⟨rfl, b1, e9, Or.inr ⟨M, hs2⟩, ⟨g, h432⟩, b3⟩
      · rw [Bool.not_eq_true] at hb
        (refine Exists.intro 0 ?_; refine ⟨0, _, Nat.zero_le _, Nat.zero_le _, c_Sheet_fillIfWithin_n _ _ (74 + 2 * t) M _ _ rfl rfl hM hg hr hb, ?_⟩; refine ab_q1_elim ?_)
        refine And.intro (fun _ => ?_) (fun h_9 => absurd (rfl) h_9)
        rw [hb]
        exact ⟨rfl, Nat.le_refl _, hf.mono (fun k hk => Or.inl hk), Or.inr ⟨M, hs⟩, ⟨g, hg⟩, hKs⟩
    · intro w1 hf hs g hg hr
      have hw0 : w1 0 = oWP kn ks lf := hf.get rfl (by omega)
      have hA2 := hA1 w1 hf
      have hB2 := hB1 w1 hf
      obtain ⟨-, c, f, s1, s2, s3, s4⟩ := id hs
      obtain ⟨w1, rfl⟩ := va_ex2 hw0 s1
      refine ab_sound ok_133 [61] 80 ?_
      refine Exists.intro _ (Exists.intro _ (And.intro (hA2.1) (And.intro rfl ?_)))
      refine And.intro (fun h_9 => absurd h_9 (nI_ge hk (by omega))) (fun _ => ?_)
      (refine Exists.intro 0 ?_; refine ⟨0, _, Nat.zero_le _, Nat.zero_le _, c_Sums_clear _ _ s1 s3, ?_⟩; refine ab_q1_elim ?_)
      (refine Exists.intro 0 ?_; refine ⟨0, _, Nat.zero_le _, Nat.zero_le _, c_Sums_addProduct _ (74 + 2 * u) aa (74 + 2 * v) bb M k _ _ rfl hM.2 hM.1 hk (hA2.up (by omega)) (hB2.up (by omega)) s1 va_us, ?_⟩; refine ab_q1_elim ?_)
      have hp1 := phi_ge M hM.2 hM.1
      have hp2 := phi_lt M hM.2 hM.1
      (refine Exists.intro 0 ?_; refine ⟨0, _, Nat.zero_le _, Nat.zero_le _, c_Sums_reduce M (phi M) _ _ (by omega) (by omega) hM.2 (phi_le M hM.2) s1 s2 va_us, ?_⟩; refine ab_q1_elim ?_)
      (refine Exists.intro 0 ?_; refine ⟨0, _, Nat.zero_le _, Nat.zero_le _, c_Sums_store_43 k (phi M) 3480 _ _ (by omega) (by have := phi_le M hM.2; omega) (kp_le hM hk) (by omega) s1 va_us (((va_un (by omega)).trans ((va_un (by omega)).trans (va_un (by omega)))).trans hg), ?_⟩; refine ab_q1_elim ?_)
      refine ab_ev_of (ih _ ((((hf.up (by omega)).up (by omega)).up (by omega)).up (by omega)) ?_ _ va_us (st_rows hM hk hr ?_)) (by rw [nI_s k]; rfl) rfl rfl
      · exact ((hs.set).set.set).fr ((Fr.refl (F := fun k => k = 43)).up rfl) (by omega) (by omega) (by omega)
      · intro i hi
        rw [red_allc M hM.2 hM.1 s4 i hi]
        exact e60_red hM.2 (e60_gp (e60_zb f) (phi M) (phi M) (fun i j hi hj => ⟨Nat.lt_of_lt_of_le (Nat.mod_lt _ (by omega)) hM.2, rfl, rfl⟩)) i
  exact ab_ev_of (loop 0 (by omega) w1 (e1.mono (fun k hk => by omega)) e2 g0 (e1.get h43 (by omega)) (fun j i hj => by omega)) rfl rfl rfl
end API1
