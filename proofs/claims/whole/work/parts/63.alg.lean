/-! turning and mirroring, as sums -/
theorem sumZ_front (f : Nat → Int) (m : Nat) : sumZ f (m + 1) = f 0 + sumZ (fun j => f (j + 1)) m := by
  rw [show m + 1 = 1 + m by omega, sumZ_split]
  have : sumZ f 1 = f 0 := by show (0 : Int) + f 0 = f 0; omega
  rw [this]
  congr 1
  exact sumZ_congr _ (fun k _ => by rw [Nat.add_comm])
theorem sumZ_rev (f : Nat → Int) : ∀ m, sumZ (fun j => f (m - j)) (m + 1) = sumZ f (m + 1)
  | 0 => rfl
  | m + 1 => by
    rw [sumZ_front, sumZ_congr (g := fun j => f (m - j)) _ (fun k _ => by rw [show m + 1 - (k + 1) = m - k by omega]), sumZ_rev f m, Nat.sub_zero]
    show f (m + 1) + sumZ f (m + 1) = sumZ f (m + 1) + f (m + 1)
    omega
theorem least_pal : ∀ N, N ≤ 60 → 3 ≤ N → (least N).getD 0 0 = 1 ∧ ∀ j, j < 59 → j ≤ phi N → (least N).getD j 0 = (least N).getD (phi N - j) 0 := by decide +kernel
theorem pw_rec2 (N : Nat) (hN : N ≤ 60) (hN3 : 3 ≤ N) (T i : Nat) (hT : phi N ≤ T) (hi : i < phi N) : sumZ (fun j => (least N).getD j 0 * pw N (T - j) i) (phi N) + pw N (T - phi N) i = 0 := by
  have hp := phi_le N hN
  have hp1 := phi_ge N hN hN3
  obtain ⟨q0, q1⟩ := least_pal N hN hN3
  have h1 := pw_rec N hp1 (T - phi N) i hi
  have e1 : sumZ (fun j => (least N).getD j 0 * pw N (T - phi N + j) i) (phi N + 1) = 0 := by
    show sumZ (fun j => (least N).getD j 0 * pw N (T - phi N + j) i) (phi N) + (least N).getD (phi N) 0 * pw N (T - phi N + phi N) i = 0
    rw [q1 (phi N) (by omega) (Nat.le_refl _), Nat.sub_self, q0, Int.one_mul]
    exact h1
  rw [← sumZ_rev] at e1
  rw [sumZ_congr (g := fun j => (least N).getD j 0 * pw N (T - j) i) (phi N + 1) (fun j hj => by rw [q1 j (by omega) (by omega), show T - phi N + (phi N - j) = T - j by omega])] at e1
  have e2 : sumZ (fun j => (least N).getD j 0 * pw N (T - j) i) (phi N) + (least N).getD (phi N) 0 * pw N (T - phi N) i = 0 := e1
  rw [q1 (phi N) (by omega) (Nat.le_refl _), Nat.sub_self, q0, Int.one_mul] at e2
  exact e2
theorem sumZ_mul (a : Int) (f : Nat → Int) : ∀ n, sumZ (fun k => a * f k) n = a * sumZ f n
  | 0 => by show (0 : Int) = a * 0; rw [Int.mul_zero]
  | n + 1 => by
    show sumZ (fun k => a * f k) n + a * f n = a * (sumZ f n + f n)
    rw [sumZ_mul a f n, Int.mul_add]
theorem sumZ_sub (f g : Nat → Int) : ∀ n, sumZ (fun k => f k - g k) n = sumZ f n - sumZ g n
  | 0 => rfl
  | n + 1 => by
    show sumZ (fun k => f k - g k) n + (f n - g n) = (sumZ f n + f n) - (sumZ g n + g n)
    rw [sumZ_sub f g n]
    omega
/-- a power mirrored: its turn is taken off -/
theorem pw_conj (N : Nat) (hN : N ≤ 60) (hN3 : 3 ≤ N) (i : Nat) (hi : i < phi N) : ∀ (a T : Nat), a + phi N ≤ T → sumZ (fun j => pw N a j * pw N (T - j) i) (phi N) = pw N (T - a) i
  | 0, T, hT => by
    have hp1 := phi_ge N hN hN3
    rw [sumZ_one _ (show 0 < phi N by omega) (fun k hk hne => by rw [pw_lo N (by omega) hk, if_neg hne, Int.zero_mul])]
    rw [pw_lo N (by omega) (by omega), if_pos rfl, Int.one_mul]
  | a + 1, T, hT => by
    have hp1 := phi_ge N hN hN3
    have ih := pw_conj N hN hN3 i hi a (T - 1) (by omega)
    have h1 := pw_rec2 N hN hN3 T i (by omega) hi
    rw [show T - (a + 1) = T - 1 - a by omega, ← ih]
    have e1 : sumZ (fun j => pw N (a + 1) j * pw N (T - j) i) (phi N) = sumZ (fun j => (if 0 < j then pw N a (j - 1) else 0) * pw N (T - j) i) (phi N) - pw N a (phi N - 1) * sumZ (fun j => (least N).getD j 0 * pw N (T - j) i) (phi N) := by
      rw [← sumZ_mul, ← sumZ_sub]
      refine sumZ_congr _ (fun j hj => ?_)
      rw [pw_step N (by omega) hj, Int.sub_mul, Int.mul_assoc]
    rw [e1]
    obtain ⟨m, hm⟩ : ∃ m, phi N = m + 1 := ⟨phi N - 1, by omega⟩
    have e2 : sumZ (fun j => (if 0 < j then pw N a (j - 1) else 0) * pw N (T - j) i) (phi N) = sumZ (fun j => pw N a j * pw N (T - 1 - j) i) m := by
      rw [hm, sumZ_front]
      rw [if_neg (by omega), Int.zero_mul, Int.zero_add]
      refine sumZ_congr _ (fun j hj => ?_)
      rw [if_pos (by omega), show j + 1 - 1 = j by omega, show T - (j + 1) = T - 1 - j by omega]
    have e3 : sumZ (fun j => pw N a j * pw N (T - 1 - j) i) (phi N) = sumZ (fun j => pw N a j * pw N (T - 1 - j) i) m + pw N a (phi N - 1) * pw N (T - phi N) i := by
      rw [hm]
      show sumZ _ m + pw N a m * pw N (T - 1 - m) i = _
      rw [show m + 1 - 1 = m by omega, show T - 1 - m = T - (m + 1) by omega]
    rw [e2, e3]
    have e4 : sumZ (fun j => (least N).getD j 0 * pw N (T - j) i) (phi N) = - pw N (T - phi N) i := by omega
    rw [e4, Int.mul_neg]
    omega
theorem tv_pw {N : Nat} (hN : N ≤ 60) (hN3 : 3 ≤ N) (a : Nat) : ∀ t i, i < phi N → tv N t (fun j => Int64.ofInt (pw N a j)) i = Int64.ofInt (pw N (t + a) i)
  | 0, i, hi => by rw [tv_0 _ hi, Nat.zero_add]
  | t + 1, i, hi => by
    have hp1 := phi_ge N hN hN3
    rw [tv_s hN hN3 (fun j _ => rfl) (c := fun j => Int64.ofInt ((least N).getD j 0)) _ hi]
    rw [turnF_congr (r2 := fun j => Int64.ofInt (pw N (t + a) j)) (fun j hj => tv_pw hN hN3 a t j hj) i hi]
    rw [show t + 1 + a = t + a + 1 by omega, pw_step N (by omega) hi, ofInt_step]
    unfold turnF
    rw [if_pos hi]
    by_cases h0 : 0 < i
    · rw [if_pos h0, if_pos h0]
    · rw [if_neg h0, if_neg h0, show i = 0 by omega]
      show -Int64.ofInt _ * _ = 0 - _
      grind
/-- mirrored, and turned -/
def mt (N t : Nat) (r : Nat → Int64) (i : Nat) : Int64 := redV N (gaF (fun j => (t + N - j) % N) r (phi N) Z0) i
theorem mt_sum {N : Nat} (hN3 : 3 ≤ N) (t : Nat) (r : Nat → Int64) (i : Nat) : mt N t r i = sumL (fun j => r j * Int64.ofInt (pw N ((t + N - j) % N) i)) (phi N) := by
  unfold mt
  rw [red_ga N i _ _ _ _ (fun j _ => Nat.mod_lt _ (by omega)), red_Z, Int64.zero_add]
theorem mt_congr {N t i : Nat} (hN3 : 3 ≤ N) {r r2 : Nat → Int64} (h : Lk (phi N) r r2) : mt N t r i = mt N t r2 i := by
  rw [mt_sum hN3, mt_sum hN3]
  exact sumL_congr _ (fun k hk => by rw [h k hk])
theorem mv_mt (N : Nat) (r : Nat → Int64) : mv N r = mt N 0 r := by
  funext i
  unfold mv mt
  simp only [Nat.zero_add]
theorem sumL_mulr (a : Int64) (f : Nat → Int64) : ∀ n, sumL f n * a = sumL (fun k => f k * a) n
  | 0 => Int64.zero_mul
  | n + 1 => by
    show (sumL f n + f n) * a = sumL (fun k => f k * a) n + f n * a
    rw [← sumL_mulr a f n]
    grind
/-- a sum of sums, the inner one's factors taken out -/
theorem sumL_swap (r : Nat → Int64) (A : Nat → Nat → Int64) (B : Nat → Int64) (p m : Nat) : sumL (fun j => sumL (fun k => r k * A k j) m * B j) p = sumL (fun k => r k * sumL (fun j => A k j * B j) p) m := by
  rw [sumL_congr (g := fun j => sumL (fun k => r k * (A k j * B j)) m) p (fun j _ => by
    rw [sumL_mulr]
    exact sumL_congr _ (fun k _ => by rw [Int64.mul_assoc]))]
  rw [sumL_comm]
  exact sumL_congr _ (fun k _ => by rw [sumL_mul])
theorem tv_mt {N : Nat} (hN : N ≤ 60) (hN3 : 3 ≤ N) (t u : Nat) (r : Nat → Int64) (i : Nat) (hi : i < phi N) : tv N t (mt N u r) i = mt N (t + u) r i := by
  have hp2 := phi_lt N hN hN3
  have e : tv N t (mt N u r) i = sumL (fun j => sumL (fun k => r k * Int64.ofInt (pw N ((u + N - k) % N) j)) (phi N) * Int64.ofInt (pw N (t + j) i)) (phi N) := by
    unfold tv
    exact sumL_congr _ (fun j _ => by rw [mt_sum hN3])
  rw [e, sumL_swap, mt_sum hN3]
  refine sumL_congr _ (fun k hk => ?_)
  have h2 := tv_pw hN hN3 ((u + N - k) % N) t i hi
  unfold tv at h2
  rw [h2, ← pw_mod N hN hN3 (t + (u + N - k) % N), Nat.add_mod_mod, show t + (u + N - k) = t + u + N - k by omega]
theorem ofInt_mul2 (a b : Int) : Int64.ofInt a * Int64.ofInt b = Int64.ofInt (a * b) := by rw [Int64.ofInt_mul]
theorem mt_mt {N : Nat} (hN : N ≤ 60) (hN3 : 3 ≤ N) (t : Nat) (ht : t < N) (r : Nat → Int64) (i : Nat) (hi : i < phi N) : mt N t (mt N t r) i = r i := by
  have hp2 := phi_lt N hN hN3
  rw [mt_sum hN3]
  rw [sumL_congr (g := fun j => sumL (fun k => r k * Int64.ofInt (pw N ((t + N - k) % N) j)) (phi N) * Int64.ofInt (pw N ((t + N - j) % N) i)) _ (fun j _ => by rw [mt_sum hN3])]
  rw [sumL_swap]
  have key : ∀ k, k < phi N → sumL (fun j => Int64.ofInt (pw N ((t + N - k) % N) j) * Int64.ofInt (pw N ((t + N - j) % N) i)) (phi N) = if i = k then 1 else 0 := by
    intro k hk
    have ha : (t + N - k) % N < N := Nat.mod_lt _ (by omega)
    have hmod : (t + 3 * N - (t + N - k) % N) % N = k := by
      by_cases e : t < k
      · rw [Nat.mod_eq_of_lt (show t + N - k < N by omega), show t + 3 * N - (t + N - k) = k + N * 2 by omega, Nat.add_mul_mod_self_left, Nat.mod_eq_of_lt (by omega)]
      · rw [show t + N - k = t - k + N by omega, Nat.add_mod_right, Nat.mod_eq_of_lt (show t - k < N by omega), show t + 3 * N - (t - k) = k + N * 3 by omega, Nat.add_mul_mod_self_left, Nat.mod_eq_of_lt (by omega)]
    have h1 := pw_conj N hN hN3 i hi ((t + N - k) % N) (t + 3 * N) (by omega)
    rw [← pw_mod N hN hN3 (t + 3 * N - (t + N - k) % N), hmod, pw_lo N hk hi] at h1
    have h2 := congrArg Int64.ofInt h1
    rw [sumZ_cast] at h2
    have h3 : Int64.ofInt (if i = k then (1 : Int) else 0) = if i = k then 1 else 0 := by split <;> rfl
    rw [← h3, ← h2]
    refine sumL_congr _ (fun j hj => ?_)
    rw [ofInt_mul2, ← pw_mod N hN hN3 (t + 3 * N - j), show t + 3 * N - j = t + N - j + N * 2 by omega, Nat.add_mul_mod_self_left]
  rw [sumL_congr (g := fun k => r k * (if i = k then 1 else 0)) _ (fun k hk => by rw [key k hk])]
  rw [sumL_one _ hi (fun k _ hne => by rw [if_neg (fun z => hne z.symm), Int64.mul_zero]), if_pos rfl, Int64.mul_one]
/-- every row, turned (mirrored too, or not), is among the rows -/
def tm (N : Nat) (mir : Bool) (t : Nat) (r : Nat → Int64) : Nat → Int64 := if mir = true then mt N t r else tv N t r
def inB (N : Nat) (R : Nat → Nat → Int64) (mir : Bool) (t : Nat) : Bool := alB (fun k => exB (fun j => lkB (phi N) (R j) (tm N mir t (R k))) N) N
theorem inB_spec {N : Nat} {R : Nat → Nat → Int64} {mir : Bool} {t : Nat} : inB N R mir t = true ↔ ∀ k, k < N → ∃ j, j < N ∧ Lk (phi N) (R j) (tm N mir t (R k)) := by
  unfold inB alB
  rw [decide_eq_true_iff]
  constructor
  · intro h k hk
    obtain ⟨j, hj, q⟩ := of_decide_eq_true (h k hk)
    exact ⟨j, hj, lkB_iff.mp q⟩
  · intro h k hk
    obtain ⟨j, hj, q⟩ := h k hk
    exact exB_t hj (lkB_iff.mpr q)
theorem in_rev {N : Nat} (hN : N ≤ 60) (hN3 : 3 ≤ N) {R : Nat → Nat → Int64} {mir : Bool} {t : Nat} (ht : t < N) (h : inB N R mir t = true) : ∀ k, k < N → ∃ j, j < N ∧ Lk (phi N) (R k) (tm N mir t (R j)) := by
  rw [inB_spec] at h
  cases mir with
  | true =>
    intro k hk
    obtain ⟨j, hj, q⟩ := h k hk
    refine ⟨j, hj, fun i hi => ?_⟩
    show R k i = mt N t (R j) i
    rw [mt_congr hN3 q]
    exact (mt_mt hN hN3 t ht (R k) i hi).symm
  | false =>
    have it : ∀ m k, k < N → ∃ j, j < N ∧ Lk (phi N) (R j) (tv N (m * t) (R k)) := by
      intro m
      induction m with
      | zero => exact fun k hk => ⟨k, hk, fun i hi => by rw [Nat.zero_mul, tv_0 _ hi]⟩
      | succ m ih =>
        intro k hk
        obtain ⟨j, hj, q⟩ := ih k hk
        obtain ⟨j2, hj2, q2⟩ := h j hj
        refine ⟨j2, hj2, fun i hi => ?_⟩
        rw [q2 i hi]
        show tv N t (R j) i = _
        rw [tv_congr q, tv_add hN hN3 _ _ _ i hi, Nat.add_mul, Nat.one_mul, Nat.add_comm]
    intro k hk
    obtain ⟨j, hj, q⟩ := it (N - 1) k hk
    refine ⟨j, hj, fun i hi => ?_⟩
    show R k i = tv N t (R j) i
    rw [tv_congr q, tv_add hN hN3 _ _ _ i hi]
    have e : t + (N - 1) * t = N * t := by
      obtain ⟨m, hm⟩ : ∃ m, N = m + 1 := ⟨N - 1, by omega⟩
      rw [hm, Nat.add_sub_cancel, Nat.add_mul, Nat.one_mul, Nat.add_comm]
    rw [e, ← tv_mod hN hN3, Nat.mul_mod_right, tv_0 _ hi]
/-- both ways -/
theorem in_both {N : Nat} (hN : N ≤ 60) (hN3 : 3 ≤ N) {R : Nat → Nat → Int64} {mir : Bool} {t : Nat} (ht : t < N) : (alB (fun k => amB N (phi N) (tm N mir t (R k)) R) N && alB (fun k => amB N (phi N) (R k) (fun j => tm N mir t (R j))) N) = inB N R mir t := by
  have e1 : alB (fun k => amB N (phi N) (tm N mir t (R k)) R) N = inB N R mir t := by
    unfold inB
    refine alB_congr (fun k _ => ?_)
    unfold amB exB
    apply decide_eq_decide.mpr
    exact ⟨fun ⟨j, hj, q⟩ => ⟨j, hj, (lk_sym _ _ _).trans q⟩, fun ⟨j, hj, q⟩ => ⟨j, hj, (lk_sym _ _ _).trans q⟩⟩
  rw [e1]
  cases h : inB N R mir t
  · rfl
  · rw [Bool.true_and]
    refine alB_t (fun k hk => ?_)
    obtain ⟨j, hj, q⟩ := in_rev hN hN3 ht h k hk
    exact decide_eq_true ⟨j, hj, lkB_iff.mpr q⟩
/-- rows that begin elsewhere, turned -/
def bgB (N : Nat) (S R : Nat → Nat → Int64) (mir : Bool) (t m : Nat) : Bool := alB (fun k => lkB (phi N) (S k) (tm N mir t (R ((k + m) % N)))) N
theorem tm_lk {N : Nat} (hN : N ≤ 60) (hN3 : 3 ≤ N) {mir : Bool} {t : Nat} {r x : Nat → Int64} (h : Lk (phi N) x (if mir = true then mv N r else r)) : Lk (phi N) (tv N t x) (tm N mir t r) := by
  intro i hi
  rw [tv_congr h]
  cases mir with
  | true =>
    show tv N t (mv N r) i = mt N t r i
    rw [mv_mt, tv_mt hN hN3 _ _ _ i hi, Nat.add_zero]
  | false => rfl
theorem cnt_cyc {P : Nat → Bool} {N : Nat} (h : P N = P 0) : cnt (fun m => P (m + 1)) N = cnt P N := by
  have key : ∀ n, cnt P (n + 1) = (if P 0 = true then 1 else 0) + cnt (fun m => P (m + 1)) n := by
    intro n
    induction n with
    | zero =>
      show 0 + (if P 0 = true then 1 else 0) = _ + 0
      omega
    | succ n ih =>
      show cnt P (n + 1) + (if P (n + 1) = true then 1 else 0) = _ + (cnt (fun m => P (m + 1)) n + (if P (n + 1) = true then 1 else 0))
      rw [ih]
      omega
  have h1 := key N
  have h2 : cnt P (N + 1) = cnt P N + (if P N = true then 1 else 0) := rfl
  rw [h] at h2
  omega
