theorem l_ring1 (a b c d e : Int64) : a + b - (c + d * e) = (a - c) + (b - d * e) := by grind
theorem l_ring2 (a b c : Int64) : a * (b + c) = a * b + a * c := by grind
theorem sumL_congr {f g : Nat → Int64} : ∀ (n : Nat), (∀ k, k < n → f k = g k) → sumL f n = sumL g n
  | 0, _ => rfl
  | n + 1, h => by
    unfold sumL
    rw [sumL_congr n (fun k hk => h k (by omega)), h n (by omega)]
theorem sumL_add (f g : Nat → Int64) : ∀ n, sumL (fun k => f k + g k) n = sumL f n + sumL g n
  | 0 => by simp [sumL]
  | n + 1 => by
    unfold sumL
    rw [sumL_add f g n]
    grind
theorem sumL_mul (a : Int64) (f : Nat → Int64) : ∀ n, sumL (fun k => a * f k) n = a * sumL f n
  | 0 => by simp [sumL]
  | n + 1 => by
    unfold sumL
    rw [sumL_mul a f n]
    grind
theorem sumL_zero {f : Nat → Int64} : ∀ (n : Nat), (∀ k, k < n → f k = 0) → sumL f n = 0
  | 0, _ => rfl
  | n + 1, h => by
    unfold sumL
    rw [sumL_zero n (fun k hk => h k (by omega)), h n (by omega)]
    rfl
theorem sumL_split (f : Nat → Int64) (t : Nat) : ∀ m, sumL f (t + m) = sumL f t + sumL (fun j => f (t + j)) m
  | 0 => by simp [sumL]
  | m + 1 => by
    show sumL f (t + m) + f (t + m) = _
    rw [sumL_split f t m]
    show _ = sumL f t + (sumL (fun j => f (t + j)) m + f (t + m))
    grind
theorem sumL_one (f : Nat → Int64) {i n : Nat} (hi : i < n) (h : ∀ k, k < n → k ≠ i → f k = 0) : sumL f n = f i := by
  obtain ⟨m, rfl⟩ : ∃ m, n = i + (m + 1) := ⟨n - i - 1, by omega⟩
  rw [sumL_split, sumL_zero i (fun k hk => h k (by omega) (by omega))]
  rw [show m + 1 = 1 + m by omega, sumL_split, sumL_zero m (fun k hk => h (i + (1 + k)) (by omega) (by omega))]
  show 0 + (0 + f (i + 0) + 0) = f i
  simp
/-- sums of whole numbers -/
def sumZ (f : Nat → Int) : Nat → Int
  | 0 => 0
  | k + 1 => sumZ f k + f k
theorem sumZ_cast (f : Nat → Int) : ∀ n, Int64.ofInt (sumZ f n) = sumL (fun k => Int64.ofInt (f k)) n
  | 0 => rfl
  | n + 1 => by
    unfold sumZ sumL
    rw [Int64.ofInt_add, sumZ_cast f n]
theorem sumZ_congr {f g : Nat → Int} : ∀ (n : Nat), (∀ k, k < n → f k = g k) → sumZ f n = sumZ g n
  | 0, _ => rfl
  | n + 1, h => by
    unfold sumZ
    rw [sumZ_congr n (fun k hk => h k (by omega)), h n (by omega)]
theorem sumZ_lin (a : Int) (f g : Nat → Int) : ∀ n, sumZ (fun k => f k - g k * a) n = sumZ f n - sumZ g n * a
  | 0 => by simp [sumZ]
  | n + 1 => by
    unfold sumZ
    rw [sumZ_lin a f g n]
    grind
theorem sumZ_zero {f : Nat → Int} : ∀ (n : Nat), (∀ k, k < n → f k = 0) → sumZ f n = 0
  | 0, _ => rfl
  | n + 1, h => by
    unfold sumZ
    rw [sumZ_zero n (fun k hk => h k (by omega)), h n (by omega)]
    rfl
theorem sumZ_split (f : Nat → Int) (t : Nat) : ∀ m, sumZ f (t + m) = sumZ f t + sumZ (fun j => f (t + j)) m
  | 0 => by simp [sumZ]
  | m + 1 => by
    show sumZ f (t + m) + f (t + m) = _
    rw [sumZ_split f t m]
    show _ = sumZ f t + (sumZ (fun j => f (t + j)) m + f (t + m))
    grind
theorem sumZ_one (f : Nat → Int) {i n : Nat} (hi : i < n) (h : ∀ k, k < n → k ≠ i → f k = 0) : sumZ f n = f i := by
  obtain ⟨m, rfl⟩ : ∃ m, n = i + (m + 1) := ⟨n - i - 1, by omega⟩
  rw [sumZ_split, sumZ_zero i (fun k hk => h k (by omega) (by omega))]
  rw [show m + 1 = 1 + m by omega, sumZ_split, sumZ_zero m (fun k hk => h (i + (1 + k)) (by omega) (by omega))]
  show 0 + (0 + f (i + 0) + 0) = f i
  simp
theorem pw_lo (N : Nat) {k i : Nat} (hk : k < phi N) (hi : i < phi N) : pw N k i = if i = k then 1 else 0 := by
  unfold pw
  rw [prow_lo _ _ hk, unit_at hi]
theorem pw_step (N : Nat) (hp : 1 ≤ phi N) {k i : Nat} (hi : i < phi N) : pw N (k + 1) i = (if 0 < i then pw N k (i - 1) else 0) - pw N k (phi N - 1) * (least N).getD i 0 := by
  unfold pw
  rw [prow_step _ _ hp, step_at hi]
/-- the polynomial's own law, at every power -/
theorem pw_rec (N : Nat) (hp : 2 ≤ phi N) : ∀ (t i : Nat), i < phi N → sumZ (fun j => (least N).getD j 0 * pw N (t + j) i) (phi N) + pw N (t + phi N) i = 0
  | 0, i, hi => by
    rw [sumZ_one _ hi (fun k hk hne => by rw [Nat.zero_add, pw_lo N hk hi, if_neg (fun z => hne z.symm), Int.mul_zero])]
    rw [Nat.zero_add, pw_lo N hi hi, if_pos rfl, Nat.zero_add]
    have e : pw N (phi N) i = - (least N).getD i 0 := by
      have e1 : phi N = phi N - 1 + 1 := by omega
      have := pw_step N (by omega) (k := phi N - 1) hi
      rw [← e1] at this
      rw [this, pw_lo N (show phi N - 1 < phi N by omega) (show phi N - 1 < phi N by omega), if_pos rfl]
      by_cases h0 : 0 < i
      · rw [if_pos h0, pw_lo N (show phi N - 1 < phi N by omega) (show i - 1 < phi N by omega), if_neg (by omega)]
        omega
      · rw [if_neg h0]
        omega
    rw [e]
    omega
  | t + 1, i, hi => by
    have h1 := pw_rec N hp t (phi N - 1) (by omega)
    have hS : ∀ m, sumZ (fun j => (least N).getD j 0 * pw N (t + 1 + j) i) m = (if 0 < i then sumZ (fun j => (least N).getD j 0 * pw N (t + j) (i - 1)) m else 0) - sumZ (fun j => (least N).getD j 0 * pw N (t + j) (phi N - 1)) m * (least N).getD i 0 := by
      intro m
      rw [sumZ_congr (g := fun j => (if 0 < i then (least N).getD j 0 * pw N (t + j) (i - 1) else 0) - ((least N).getD j 0 * pw N (t + j) (phi N - 1)) * (least N).getD i 0) m (fun k _ => ?_)]
      · rw [sumZ_lin]
        by_cases h0 : 0 < i
        · simp only [if_pos h0]
        · simp only [if_neg h0]
          rw [sumZ_zero m (fun _ _ => rfl)]
      · rw [show t + 1 + k = t + k + 1 by omega, pw_step N (by omega) hi]
        split <;> grind
    rw [hS, show t + 1 + phi N = t + phi N + 1 by omega, pw_step N (by omega) hi]
    by_cases h0 : 0 < i
    · have h2 := pw_rec N hp t (i - 1) (by omega)
      rw [if_pos h0, if_pos h0]
      have e1 : pw N (t + phi N) (i - 1) = - sumZ (fun j => (least N).getD j 0 * pw N (t + j) (i - 1)) (phi N) := by omega
      have e2 : pw N (t + phi N) (phi N - 1) = - sumZ (fun j => (least N).getD j 0 * pw N (t + j) (phi N - 1)) (phi N) := by omega
      rw [e1, e2]
      grind
    · rw [if_neg h0, if_neg h0]
      have e2 : pw N (t + phi N) (phi N - 1) = - sumZ (fun j => (least N).getD j 0 * pw N (t + j) (phi N - 1)) (phi N) := by omega
      rw [e2]
      grind
/-- a sum of powers below m, number i -/
def valV (N : Nat) (f : Nat → Int64) (i m : Nat) : Int64 := sumL (fun k => f k * Int64.ofInt (pw N k i)) m
theorem val_step (N : Nat) (hp : 2 ≤ phi N) {c : Nat → Int64} (hc : ∀ j, j ≤ phi N → c j = Int64.ofInt ((least N).getD j 0)) (t i : Nat) (hi : i < phi N) (f : Nat → Int64) : valV N (redS (phi N) c t f) i (phi N + t) = valV N f i (phi N + t + 1) := by
  have hrec := pw_rec N hp t i hi
  have hR : Int64.ofInt (pw N (t + phi N) i) = - sumL (fun j => Int64.ofInt ((least N).getD j 0) * Int64.ofInt (pw N (t + j) i)) (phi N) := by
    have : pw N (t + phi N) i = - sumZ (fun j => (least N).getD j 0 * pw N (t + j) i) (phi N) := by omega
    rw [this, Int64.ofInt_neg, sumZ_cast]
    congr 1
    exact sumL_congr _ (fun k _ => Int64.ofInt_mul _ _)
  unfold valV
  show _ = sumL (fun k => f k * Int64.ofInt (pw N k i)) (phi N + t) + f (phi N + t) * Int64.ofInt (pw N (phi N + t) i)
  rw [show phi N + t = t + phi N by omega, hR, sumL_split, sumL_split (fun k => f k * Int64.ofInt (pw N k i))]
  rw [sumL_congr (g := fun k => f k * Int64.ofInt (pw N k i)) t (fun k hk => by unfold redS; rw [if_neg (by omega)])]
  rw [sumL_congr (g := fun j => f (t + j) * Int64.ofInt (pw N (t + j) i) + (- f (t + phi N)) * (Int64.ofInt ((least N).getD j 0) * Int64.ofInt (pw N (t + j) i))) (phi N) (fun j hj => ?_)]
  · rw [sumL_add, sumL_mul]
    grind
  · unfold redS
    rw [if_pos (by omega), show t + j - t = j by omega, hc j (by omega)]
    grind
theorem val_base (N : Nat) (i : Nat) (hi : i < phi N) (f : Nat → Int64) : valV N f i (phi N) = f i := by
  unfold valV
  rw [sumL_one _ hi (fun k hk hne => by rw [pw_lo N hk hi, if_neg (fun z => hne z.symm)]; show f k * 0 = 0; simp)]
  rw [pw_lo N hi hi, if_pos rfl]
  show f i * 1 = f i
  simp
/-- reducing step by step, and by the table of powers, is the same -/
theorem red_eq (N : Nat) (hp : 2 ≤ phi N) {c : Nat → Int64} (hc : ∀ j, j ≤ phi N → c j = Int64.ofInt ((least N).getD j 0)) (i : Nat) (hi : i < phi N) : ∀ (t : Nat) (f : Nat → Int64), redD (phi N) c t f i = valV N f i (phi N + t)
  | 0, f => by rw [Nat.add_zero, val_base N i hi]; rfl
  | t + 1, f => by
    unfold redD
    rw [red_eq N hp hc i hi t, val_step N hp hc t i hi]
    rfl
theorem red_all (N : Nat) (hN : N ≤ 60) (hN3 : 3 ≤ N) (g : Nat → Int64) (i : Nat) (hi : i < phi N) (f : Nat → Int64) : redD (phi N) (toF (least N) g) (N - phi N) f i = redV N f i := by
  have hp := phi_ge N hN hN3
  have hle := phi_le N hN
  have hlt := phi_lt N hN hN3
  rw [red_eq N hp (fun j hj => toF_at _ _ (by rw [least_len]; omega)) i hi]
  unfold valV redV
  rw [show phi N + (N - phi N) = N by omega]
