section SHEET
variable {X : ab_X} {l : Launch}
theorem ab_dec {y : Nat} (hy : ab_okc y 0 (ab_code y) = true) (pc : Nat) {e : ab_Ent} {k : List ab_Ent} (h : ab_sf y pc = e :: k) : decode (ab_by y) pc = .ok (e.1, ab_lnp pc e.1) := by
  have h1 := ab_okc_drop pc (ab_code y) 0 hy
  have h2 : ab_okc y pc (e :: k) = true := by rw [← h]; exact h1
  exact (ab_okc_cons h2).1
theorem c_Sheet_number (x z : Int32) (q a L p k i : Nat) (w : ab_W) (n : Nat) {v : Int32} {f : Nat → Int32} (hx : x = nI k) (hz : z = nI i) (hL : L < 10000) (hki : k * p + i < L) (h0 : w q = oSheet v (nI p) a) (h1 : w a = aI L f) : ab_C X l i_Sheet_number [.ref q, .int x, .int z] w n 0 0 (ab_q1 (some (.long (f (k * p + i)).toInt64)) w n) := by
  subst hx hz
  refine ab_metL cd_58 om_58 rfl rfl (ab_sound ok_58 [18] 50 ?_)
  refine Exists.intro _ (Exists.intro _ (And.intro h0 (And.intro rfl ?_)))
  refine And.intro (fun h_9 => absurd h_9 ((by rw [pk_mul, nI_add]; exact nI_pos (by omega)))) (fun _ => ?_)
  refine Exists.intro _ (Exists.intro _ (And.intro h0 (And.intro rfl ?_)))
  refine ab_x_alen0 (ab_dec ok_58 18 rfl) h1 ?_
  refine ab_sound ok_58 [31] 50 ?_
  refine And.intro (fun _ => ?_) (fun h_9 => absurd ((by rw [pk_mul, nI_add]; exact nI_lt hki (by omega))) h_9)
  refine Exists.intro _ (Exists.intro _ (And.intro h0 (And.intro rfl ?_)))
  refine ab_x_iaload (ab_dec ok_58 31 rfl) h1 (by rw [pk_mul, nI_add]; exact vp_in_nI hki (by omega)) ?_
  refine ab_sound ok_58 [] 50 ?_
  exact ⟨by rw [pk_mul, nI_add, nI_clamp (by omega)], rfl, rfl⟩
/-- a sheet in the world: where it is, its N, where its numbers are, what they are (as longs) -/
def shOk (q a : Nat) : Prop := (q = 41 ∨ (74 ≤ q ∧ q < 90)) ∧ (a = 42 ∨ (74 ≤ a ∧ a < 90) ∨ 135 ≤ a) ∧ q ≠ a
def ShIs (w : ab_W) (q N a : Nat) (R : Nat → Nat → Int64) : Prop := w q = oSheet (nI N) (nI (phi N)) a ∧ (∃ f : Nat → Int32, w a = aI 3480 f ∧ ∀ k i, k < N → i < phi N → (f (k * phi N + i)).toInt64 = R k i) ∧ shOk q a
theorem ShIs.up {w : ab_W} {q N a k : Nat} {R : Nat → Nat → Int64} {c : va_E} (h : ShIs w q N a R) (hk : k < 41 ∨ (43 ≤ k ∧ k < 74) ∨ (90 ≤ k ∧ k < 135)) : ShIs (va_up w k c) q N a R := by
  obtain ⟨h0, ⟨f, h1, h2⟩, h3⟩ := h
  have h4 := h3
  unfold shOk at h4
  exact ⟨(va_un (by omega)).trans h0, ⟨f, (va_un (by omega)).trans h1, h2⟩, h3⟩
theorem kp_lt {N k i : Nat} (hN : N ≤ 60) (hk : k < N) (hi : i < phi N) : k * phi N + i < 3480 := by
  have hp := phi_le N hN
  have h1 : (k + 1) * phi N ≤ 60 * phi N := Nat.mul_le_mul_right _ (by omega)
  rw [Nat.add_mul] at h1
  omega
theorem c_number (x z : Int32) (q a N k i : Nat) {R : Nat → Nat → Int64} (w : ab_W) (n : Nat) (hx : x = nI k) (hz : z = nI i) (hN : N ≤ 60) (hk : k < N) (hi : i < phi N) (h : ShIs w q N a R) : ab_C X l i_Sheet_number [.ref q, .int x, .int z] w n 0 0 (ab_q1 (some (.long (R k i))) w n) := by
  obtain ⟨h0, ⟨f, h1, h2⟩, -⟩ := h
  rw [← h2 k i hk hi]
  exact c_Sheet_number x z q a 3480 (phi N) k i w n hx hz (by omega) (kp_lt hN hk hi) h0 h1
/-- two rows are alike below p -/
def Lk (p : Nat) (r t : Nat → Int64) : Prop := ∀ i, i < p → r i = t i
def lkB (p : Nat) (r t : Nat → Int64) : Bool := decide (∀ i, i < p → r i = t i)
theorem lkB_iff {p : Nat} {r t : Nat → Int64} : lkB p r t = true ↔ Lk p r t := decide_eq_true_iff
def b01 (b : Bool) : Int32 := if b = true then nI 1 else nI 0
theorem b01_0 (b : Bool) : b01 b = 0 ↔ b = false := by
  cases b
  · exact ⟨fun _ => rfl, fun _ => rfl⟩
  · exact ⟨fun h => absurd h (by decide), fun h => by cases h⟩
theorem b01_n (b : Bool) : narrow .boolean (.int (b01 b)) = .int (b01 b) := by
  cases b <;> rfl
theorem c_Sheet_isLike (x z : Int32) (q a q2 a2 N k j : Nat) {R R2 : Nat → Nat → Int64} (w : ab_W) (n : Nat) (hx : x = nI k) (hz : z = nI j) (hN : N ≤ 60) (hk : k < N) (hj : j < N) (h : ShIs w q N a R) (h2 : ShIs w q2 N a2 R2) : ab_C X l i_Sheet_isLike [.ref q, .int x, .ref q2, .int z] w n 0 0 (ab_q1 (some (.int (b01 (lkB (phi N) (R k) (R2 j))))) w n) := by
  subst hx hz
  have hp := phi_le N hN
  refine ab_metI cd_57 om_57 rfl (ab_sound ok_57 [3] 50 ?_)
  have loop : ∀ i, i ≤ phi N → (∀ m, m < i → R k m = R2 j m) → ab_Ev X l i_Sheet_isLike 3 [some (.ref q), some (.int (nI k)), some (.ref q2), some (.int (nI j)), some (.int (nI i))] [] w n 0 0 (ab_q1 (some (.int (b01 (lkB (phi N) (R k) (R2 j))))) w n) := by
    refine ab_up (phi N) ?_ (fun i hi ih => ?_)
    · intro hm
      refine ab_sound ok_57 [3] 50 ?_
      refine Exists.intro _ (Exists.intro _ (And.intro h.1 (And.intro rfl ?_)))
      refine And.intro (fun _ => ?_) (fun h_9 => absurd (nI_le (Nat.le_refl _) (by omega)) h_9)
      have e : lkB (phi N) (R k) (R2 j) = true := lkB_iff.mpr hm
      rw [e]
      exact ⟨rfl, rfl, rfl, rfl⟩
    · intro hm
      refine ab_sound ok_57 [3] 50 ?_
      refine Exists.intro _ (Exists.intro _ (And.intro h.1 (And.intro rfl ?_)))
      refine And.intro (fun h_9 => absurd h_9 (nI_ge hi (by omega))) (fun _ => ?_)
      refine And.intro (⟨_, h.1⟩) ?_
      (refine Exists.intro 0 ?_; refine ⟨0, _, Nat.zero_le _, Nat.zero_le _, c_number _ _ q a N k i w n rfl rfl hN hk hi h, ?_⟩; rintro _ _ _ ⟨rfl, rfl, rfl⟩)
      refine And.intro (⟨_, h2.1⟩) ?_
      (refine Exists.intro 0 ?_; refine ⟨0, _, Nat.zero_le _, Nat.zero_le _, c_number _ _ q2 a2 N j i _ _ rfl rfl hN hj hi h2, ?_⟩; rintro _ _ _ ⟨rfl, rfl, rfl⟩)
      refine And.intro (fun hc => ?_) (fun hc => ?_)
      · rw [lg_eq] at hc
        refine ab_ev_of (ih (fun m hm2 => ?_)) (by rw [nI_s i]; rfl) rfl rfl
        by_cases e : m = i
        · rw [e]; exact hc
        · exact hm m (by omega)
      · rw [lg_eq] at hc
        have e : lkB (phi N) (R k) (R2 j) = false := by
          rw [← Bool.not_eq_true, lkB_iff]
          exact fun hq => hc (hq i hi)
        rw [e]
        exact ⟨rfl, rfl, rfl, rfl⟩
  exact loop 0 (by omega) (fun m hm => by omega)
/-- the first place below n that has it; n, if none has -/
def fst (P : Nat → Bool) : Nat → Nat → Nat
  | 0, i => i
  | r + 1, i => if P i = true then i else fst P r (i + 1)
theorem fst_s (P : Nat → Bool) (r i : Nat) : fst P (r + 1) i = if P i = true then i else fst P r (i + 1) := rfl
theorem fst_spec (P : Nat → Bool) : ∀ (r i : Nat), (∀ m, i ≤ m → m < fst P r i → P m = false) ∧ i ≤ fst P r i ∧ fst P r i ≤ i + r ∧ (fst P r i < i + r → P (fst P r i) = true)
  | 0, i => ⟨fun m h1 h2 => by unfold fst at h2; omega, Nat.le_refl _, Nat.le_refl _, fun h => by unfold fst at h; omega⟩
  | r + 1, i => by
    unfold fst
    by_cases h : P i = true
    · rw [if_pos h]
      exact ⟨fun m h1 h2 => by omega, Nat.le_refl _, by omega, fun _ => h⟩
    · rw [if_neg h]
      obtain ⟨h1, h2, h3, h4⟩ := fst_spec P r (i + 1)
      refine ⟨fun m g1 g2 => ?_, by omega, by omega, fun g => h4 (by omega)⟩
      by_cases e : m = i
      · rw [e]
        simpa using h
      · exact h1 m (by omega) g2
def orNone (v n : Nat) : Int32 := if v < n then nI v else -nI 1
theorem c_Sheet_firstLike (z : Int32) (q a q2 a2 N j : Nat) {R R2 : Nat → Nat → Int64} (w : ab_W) (n : Nat) (hz : z = nI j) (hN : N ≤ 60) (hj : j < N) (h : ShIs w q N a R) (h2 : ShIs w q2 N a2 R2) : ab_C X l i_Sheet_firstLike [.ref q, .ref q2, .int z] w n 0 0 (ab_q1 (some (.int (orNone (fst (fun k => lkB (phi N) (R k) (R2 j)) N 0) N))) w n) := by
  subst hz
  refine ab_metI cd_56 om_56 rfl (ab_sound ok_56 [2] 50 ?_)
  have loop : ∀ (r i : Nat), i + r = N → ab_Ev X l i_Sheet_firstLike 2 [some (.ref q), some (.ref q2), some (.int (nI j)), some (.int (nI i))] [] w n 0 0 (ab_q1 (some (.int (orNone (fst (fun k => lkB (phi N) (R k) (R2 j)) r i) N))) w n) := by
    intro r
    induction r with
    | zero =>
      intro i hi
      refine ab_sound ok_56 [2] 50 ?_
      refine Exists.intro _ (Exists.intro _ (And.intro h.1 (And.intro rfl ?_)))
      refine And.intro (fun _ => ?_) (fun h_9 => absurd (nI_le (by omega) (by omega)) h_9)
      refine ⟨?_, rfl, rfl⟩
      unfold fst orNone
      rw [if_neg (by omega)]
    | succ r ih =>
      intro i hi
      refine ab_sound ok_56 [2] 50 ?_
      refine Exists.intro _ (Exists.intro _ (And.intro h.1 (And.intro rfl ?_)))
      refine And.intro (fun h_9 => absurd h_9 (nI_ge (by omega) (by omega))) (fun _ => ?_)
      refine And.intro (⟨_, h.1⟩) ?_
      (refine Exists.intro 0 ?_; refine ⟨0, _, Nat.zero_le _, Nat.zero_le _, c_Sheet_isLike _ _ q a q2 a2 N i j _ _ rfl rfl hN (by omega) hj h h2, ?_⟩; rintro _ _ _ ⟨rfl, rfl, rfl⟩)
      unfold fst
      refine And.intro (fun hc => ?_) (fun hc => ?_)
      · rw [b01_0] at hc
        rw [hc, if_neg (by decide)]
        exact ab_ev_of (ih (i + 1) (by omega)) (by rw [nI_s i]; rfl) rfl rfl
      · rw [b01_0, Bool.not_eq_false] at hc
        rw [hc, if_pos rfl]
        refine ⟨?_, rfl, rfl⟩
        unfold orNone
        rw [if_pos (by omega)]
  exact loop N 0 (by omega)
def cnt (P : Nat → Bool) : Nat → Nat
  | 0 => 0
  | k + 1 => cnt P k + (if P k = true then 1 else 0)
theorem cnt_le (P : Nat → Bool) : ∀ k, cnt P k ≤ k
  | 0 => Nat.le_refl _
  | k + 1 => by
    have := cnt_le P k
    unfold cnt
    split <;> omega
theorem cnt_congr {P Q : Nat → Bool} : ∀ n, (∀ k, k < n → P k = Q k) → cnt P n = cnt Q n
  | 0, _ => rfl
  | n + 1, h => by
    unfold cnt
    rw [cnt_congr n (fun k hk => h k (by omega)), h n (by omega)]
/-- no earlier row is alike -/
def fresh (p : Nat) (R : Nat → Nat → Int64) (k : Nat) : Bool := decide (∀ i, i < k → lkB p (R i) (R k) = false)
theorem fst_fresh (p N : Nat) (R : Nat → Nat → Int64) {k : Nat} (hk : k < N) : (fst (fun i => lkB p (R i) (R k)) N 0 = k ↔ fresh p R k = true) ∧ fst (fun i => lkB p (R i) (R k)) N 0 ≤ k := by
  obtain ⟨h1, h2, h3, h4⟩ := fst_spec (fun i => lkB p (R i) (R k)) N 0
  generalize fst (fun i => lkB p (R i) (R k)) N 0 = v at *
  have hkk : lkB p (R k) (R k) = true := lkB_iff.mpr (fun _ _ => rfl)
  have hle : v ≤ k := by
    rcases Nat.lt_or_ge k v with g | g
    · have := h1 k (by omega) g
      rw [hkk] at this
      cases this
    · exact g
  refine ⟨⟨fun e => ?_, fun e => ?_⟩, hle⟩
  · subst e
    exact decide_eq_true (fun i hi => h1 i (by omega) hi)
  · have := of_decide_eq_true e
    rcases Nat.lt_or_ge v k with g | g
    · have g2 := this v g
      have g3 := h4 (by omega)
      rw [g2] at g3
      cases g3
    · omega
theorem c_Sheet_unlike (q a N : Nat) {R : Nat → Nat → Int64} (w : ab_W) (n : Nat) (hN : N ≤ 60) (h : ShIs w q N a R) : ab_C X l i_Sheet_unlike [.ref q] w n 0 0 (ab_q1 (some (.int (nI (cnt (fresh (phi N) R) N)))) w n) := by
  refine ab_metI cd_55 om_55 rfl (ab_sound ok_55 [4] 50 ?_)
  have loop : ∀ k, k ≤ N → ab_Ev X l i_Sheet_unlike 4 [some (.ref q), some (.int (nI (cnt (fresh (phi N) R) k))), some (.int (nI k))] [] w n 0 0 (ab_q1 (some (.int (nI (cnt (fresh (phi N) R) N)))) w n) := by
    refine ab_up N ?_ (fun k hk ih => ?_)
    · refine ab_sound ok_55 [4] 50 ?_
      refine Exists.intro _ (Exists.intro _ (And.intro h.1 (And.intro rfl ?_)))
      refine And.intro (fun _ => ?_) (fun h_9 => absurd (nI_le (Nat.le_refl _) (by omega)) h_9)
      exact ⟨rfl, rfl, rfl⟩
    · obtain ⟨f1, f2⟩ := fst_fresh (phi N) N R hk
      refine ab_sound ok_55 [4] 50 ?_
      refine Exists.intro _ (Exists.intro _ (And.intro h.1 (And.intro rfl ?_)))
      refine And.intro (fun h_9 => absurd h_9 (nI_ge (by omega) (by omega))) (fun _ => ?_)
      refine And.intro (⟨_, h.1⟩) ?_
      (refine Exists.intro 0 ?_; refine ⟨0, _, Nat.zero_le _, Nat.zero_le _, c_Sheet_firstLike _ q a q a N k _ _ rfl hN hk h h, ?_⟩; rintro _ _ _ ⟨rfl, rfl, rfl⟩)
      unfold orNone
      rw [if_pos (by omega)]
      have hu : cnt (fresh (phi N) R) (k + 1) = cnt (fresh (phi N) R) k + (if fresh (phi N) R k = true then 1 else 0) := rfl
      rw [hu] at ih
      refine And.intro (fun hc => ?_) (fun hc => ?_)
      · have hc : ¬ fresh (phi N) R k = true := fun z => hc (by rw [f1.mpr z])
        rw [if_neg hc] at ih
        exact ab_ev_of ih (by rw [nI_s k]; rfl) rfl rfl
      · have hc := f1.mp ((nI_eq (by omega) (by omega)).mp hc)
        rw [if_pos hc] at ih
        exact ab_ev_of ih (by rw [nI_s k, nI_s (cnt _ k)]; rfl) rfl rfl
  exact loop 0 (by omega)
theorem c_Sheet_firstAgain (q a N : Nat) {R : Nat → Nat → Int64} (w : ab_W) (n : Nat) (hN : N ≤ 60) (h : ShIs w q N a R) : ab_C X l i_Sheet_firstAgain [.ref q] w n 0 0 (ab_q1 (some (.int (orNone (fst (fun k => !fresh (phi N) R k) N 0) N))) w n) := by
  refine ab_metI cd_61 om_61 rfl (ab_sound ok_61 [2] 50 ?_)
  have loop : ∀ (r k : Nat), k + r = N → ab_Ev X l i_Sheet_firstAgain 2 [some (.ref q), some (.int (nI k))] [] w n 0 0 (ab_q1 (some (.int (orNone (fst (fun k => !fresh (phi N) R k) r k) N))) w n) := by
    intro r
    induction r with
    | zero =>
      intro k hk
      refine ab_sound ok_61 [2] 50 ?_
      refine Exists.intro _ (Exists.intro _ (And.intro h.1 (And.intro rfl ?_)))
      refine And.intro (fun _ => ?_) (fun h_9 => absurd (nI_le (by omega) (by omega)) h_9)
      refine ⟨?_, rfl, rfl⟩
      unfold fst orNone
      rw [if_neg (by omega)]
    | succ r ih =>
      intro k hk
      obtain ⟨f1, f2⟩ := fst_fresh (phi N) N R (show k < N by omega)
      refine ab_sound ok_61 [2] 50 ?_
      refine Exists.intro _ (Exists.intro _ (And.intro h.1 (And.intro rfl ?_)))
      refine And.intro (fun h_9 => absurd h_9 (nI_ge (by omega) (by omega))) (fun _ => ?_)
      refine And.intro (⟨_, h.1⟩) ?_
      (refine Exists.intro 0 ?_; refine ⟨0, _, Nat.zero_le _, Nat.zero_le _, c_Sheet_firstLike _ q a q a N k _ _ rfl hN (by omega) h h, ?_⟩; rintro _ _ _ ⟨rfl, rfl, rfl⟩)
      rw [fst_s]
      generalize hv : fst (fun i => lkB (phi N) (R i) (R k)) N 0 = v at *
      have hor : orNone v N = nI v := by unfold orNone; rw [if_pos (by omega)]
      rw [hor]
      by_cases hc : fresh (phi N) R k = true
      · have e := f1.mpr hc
        refine And.intro (fun _ => ?_) (fun h_9 => absurd ((by rw [e]; exact nI_le (Nat.le_refl _) (by omega))) h_9)
        rw [hc, if_neg (by decide)]
        exact ab_ev_of (ih (k + 1) (by omega)) (by rw [nI_s k]; rfl) rfl rfl
      · have e : v ≠ k := fun z => hc (f1.mp z)
        refine And.intro (fun h_9 => absurd h_9 (nI_ge (by omega) (by omega))) (fun _ => ?_)
        rw [Bool.not_eq_true] at hc
        rw [hc, if_pos (show (!false) = true from rfl)]
        refine ⟨?_, rfl, rfl⟩
        unfold orNone
        rw [if_pos (by omega)]
  exact loop N 0 (by omega)
end SHEET
