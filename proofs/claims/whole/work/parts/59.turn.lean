theorem pw_div0 (N d i : Nat) (hN : N ≤ 60) (hN3 : 3 ≤ N) (hd : 0 < d) (hdN : N % d = 0) (hlt : d < N) (hi : i < phi N) : sumZ (fun j => pw N (j * d) i) (N / d) = 0 := by
  have hp := phi_ge N hN hN3
  have h := rowsK_spec (phi N) (least N) (by omega) N 0 _ (nrmL_spec (div0_ok N hN hN3)).1
  have h1 := List.all_eq_true.mp h d (List.mem_range.mpr hlt)
  rw [show Nat.beq d 0 = false by cases d; omega; rfl, hdN] at h1
  have h3 : (List.range (phi N)).all (fun i => decide (sumZ (fun j => ((rl (phi N) (least N) N 0).getD (j * d) []).getD i 0) (N / d) = 0)) = true := h1
  have h2 := of_decide_eq_true (List.all_eq_true.mp h3 i (List.mem_range.mpr hi))
  rw [← h2]
  refine sumZ_congr _ (fun j hj => ?_)
  have : j * d < N := by
    have h9 : N / d * d = N := Nat.div_mul_cancel (Nat.dvd_of_mod_eq_zero hdN)
    have : (j + 1) * d ≤ N / d * d := Nat.mul_le_mul_right _ (by omega)
    rw [Nat.add_mul] at this
    omega
  rw [rl_at _ _ _ _ _ this, Nat.zero_add]
  rfl
theorem bez (N s : Nat) (hN : N ≤ 60) (h0 : 0 < s) (hs : s < N) : ∃ k, (k * s) % N = Nat.gcd s N := by
  obtain ⟨k, -, h⟩ := List.any_eq_true.mp (bez_ok N hN s hs h0)
  exact ⟨k, Nat.eq_of_beq_eq_true h⟩
theorem prow_per (N : Nat) (hN : N ≤ 60) (hN3 : 3 ≤ N) : ∀ k, prow (phi N) (least N) (N + k) = prow (phi N) (least N) k
  | 0 => by
    have hp := phi_ge N hN hN3
    rw [Nat.add_zero, prow_N N hN hN3, prow_lo _ _ (by omega)]
  | k + 1 => by
    have hp := phi_ge N hN hN3
    rw [← Nat.add_assoc, prow_step _ _ (by omega), prow_per N hN hN3 k, prow_step _ _ (by omega)]
theorem pw_per (N : Nat) (hN : N ≤ 60) (hN3 : 3 ≤ N) (k i : Nat) : pw N (N + k) i = pw N k i := by
  unfold pw
  rw [prow_per N hN hN3]
theorem pw_perm (N : Nat) (hN : N ≤ 60) (hN3 : 3 ≤ N) (i : Nat) : ∀ m k, pw N (N * m + k) i = pw N k i
  | 0, k => by rw [Nat.mul_zero, Nat.zero_add]
  | m + 1, k => by
    rw [show N * (m + 1) + k = N + (N * m + k) by rw [Nat.mul_add]; omega, pw_per N hN hN3, pw_perm N hN hN3 i m]
theorem pw_mod (N : Nat) (hN : N ≤ 60) (hN3 : 3 ≤ N) (k i : Nat) : pw N (k % N) i = pw N k i := by
  have := pw_perm N hN hN3 i (k / N) (k % N)
  rw [Nat.div_add_mod] at this
  exact this.symm
theorem pw_div0k (N d : Nat) (hN : N ≤ 60) (hN3 : 3 ≤ N) (hd : 0 < d) (hdN : N % d = 0) (hlt : d < N) : ∀ (k i : Nat), i < phi N → sumZ (fun j => pw N (j * d + k) i) (N / d) = 0
  | 0, i, hi => pw_div0 N d i hN hN3 hd hdN hlt hi
  | k + 1, i, hi => by
    have hp := phi_ge N hN hN3
    have e : ∀ j, j < N / d → pw N (j * d + (k + 1)) i = (if 0 < i then pw N (j * d + k) (i - 1) else 0) - pw N (j * d + k) (phi N - 1) * (least N).getD i 0 := fun j _ => by
      rw [← Nat.add_assoc, pw_step N (by omega) hi]
    rw [sumZ_congr _ e, sumZ_lin, pw_div0k N d hN hN3 hd hdN hlt k (phi N - 1) (by omega), Int.zero_mul, Int.sub_zero]
    by_cases h0 : 0 < i
    · simp only [if_pos h0]
      exact pw_div0k N d hN hN3 hd hdN hlt k (i - 1) (by omega)
    · simp only [if_neg h0]
      exact sumZ_zero _ (fun _ _ => rfl)
/-- a row times z^t -/
def tv (N t : Nat) (r : Nat → Int64) (i : Nat) : Int64 := sumL (fun j => r j * Int64.ofInt (pw N (t + j) i)) (phi N)
theorem tv_congr {N t i : Nat} {r r2 : Nat → Int64} (h : Lk (phi N) r r2) : tv N t r i = tv N t r2 i := sumL_congr _ (fun k hk => by rw [h k hk])
theorem tv_0 {N i : Nat} (r : Nat → Int64) (hi : i < phi N) : tv N 0 r i = r i := by
  unfold tv
  rw [sumL_one _ hi (fun k hk hne => by rw [Nat.zero_add, pw_lo N hk hi, if_neg (fun z => hne z.symm)]; show r k * 0 = 0; rw [Int64.mul_zero])]
  rw [Nat.zero_add, pw_lo N hi hi, if_pos rfl]
  show r i * 1 = r i
  rw [Int64.mul_one]
theorem l_ring3 (r a b c : Int64) : r * (a - b * c) = r * a - (r * b) * c := by grind
theorem sumL_lin (a : Int64) (f g : Nat → Int64) : ∀ n, sumL (fun k => f k - g k * a) n = sumL f n - sumL g n * a
  | 0 => by show (0 : Int64) = 0 - 0 * a; rw [Int64.zero_mul, Int64.sub_zero]
  | n + 1 => by
    show sumL (fun k => f k - g k * a) n + (f n - g n * a) = (sumL f n + f n) - (sumL g n + g n) * a
    rw [sumL_lin a f g n]
    grind
theorem ofInt_step (a b c : Int) : Int64.ofInt (a - b * c) = Int64.ofInt a - Int64.ofInt b * Int64.ofInt c := by
  rw [Int64.ofInt_sub, Int64.ofInt_mul]
theorem tv_s {N t i : Nat} (hN : N ≤ 60) (hN3 : 3 ≤ N) {c : Nat → Int64} (hc : ∀ j, j ≤ phi N → c j = Int64.ofInt ((least N).getD j 0)) (r : Nat → Int64) (hi : i < phi N) : tv N (t + 1) r i = turnF (phi N) c (tv N t r) i := by
  have hp := phi_ge N hN hN3
  unfold turnF
  rw [if_pos hi]
  have e : ∀ j, j < phi N → r j * Int64.ofInt (pw N (t + 1 + j) i) = r j * Int64.ofInt (if 0 < i then pw N (t + j) (i - 1) else 0) - (r j * Int64.ofInt (pw N (t + j) (phi N - 1))) * c i := fun j _ => by
    rw [show t + 1 + j = t + j + 1 by omega, pw_step N (by omega) hi, ofInt_step, l_ring3, hc i (by omega)]
  unfold tv
  rw [sumL_congr _ e, sumL_lin]
  by_cases h0 : 0 < i
  · simp only [if_pos h0]
  · simp only [if_neg h0]
    rw [sumL_zero _ (fun k _ => by show r k * 0 = 0; rw [Int64.mul_zero]), show i = 0 by omega]
    grind
theorem turnF_congr {p : Nat} {c r r2 : Nat → Int64} (h : Lk p r r2) (i : Nat) (hi : i < p) : turnF p c r i = turnF p c r2 i := by
  unfold turnF
  rw [if_pos hi, if_pos hi, h (p - 1) (by omega)]
  by_cases h0 : 0 < i
  · rw [if_pos h0, if_pos h0, h (i - 1) (by omega)]
  · rw [if_neg h0, if_neg h0]
theorem tv_add {N : Nat} (hN : N ≤ 60) (hN3 : 3 ≤ N) (u : Nat) (r : Nat → Int64) : ∀ t i, i < phi N → tv N t (tv N u r) i = tv N (t + u) r i
  | 0, i, hi => by rw [tv_0 _ hi, Nat.zero_add]
  | t + 1, i, hi => by
    rw [tv_s hN hN3 (fun j _ => rfl) (c := fun j => Int64.ofInt ((least N).getD j 0)) _ hi, show t + 1 + u = t + u + 1 by omega, tv_s hN hN3 (fun j _ => rfl) (c := fun j => Int64.ofInt ((least N).getD j 0)) _ hi]
    exact turnF_congr (fun j hj => tv_add hN hN3 u r t j hj) i hi
theorem tv_mod {N : Nat} (hN : N ≤ 60) (hN3 : 3 ≤ N) (t : Nat) (r : Nat → Int64) (i : Nat) : tv N (t % N) r i = tv N t r i := by
  refine sumL_congr _ (fun k hk => ?_)
  have h1 := pw_mod N hN hN3 (t % N + k) i
  have h2 := pw_mod N hN hN3 (t + k) i
  rw [Nat.mod_add_mod] at h1
  rw [← h1, h2]
theorem tv_N {N : Nat} (hN : N ≤ 60) (hN3 : 3 ≤ N) (r : Nat → Int64) (i : Nat) (hi : i < phi N) : tv N N r i = r i := by
  rw [← tv_mod hN hN3, Nat.mod_self, tv_0 r hi]
theorem sumL_comm (f : Nat → Nat → Int64) (m : Nat) : ∀ n, sumL (fun j => sumL (fun k => f j k) m) n = sumL (fun k => sumL (fun j => f j k) n) m
  | 0 => (sumL_zero m (fun _ _ => rfl)).symm
  | n + 1 => by
    show sumL (fun j => sumL (fun k => f j k) m) n + sumL (fun k => f n k) m = sumL (fun k => sumL (fun j => f j k) n + f n k) m
    rw [sumL_comm f m n, ← sumL_add]
theorem sumL_const (a : Int64) : ∀ n, sumL (fun _ => a) n = lN n * a
  | 0 => by show (0 : Int64) = lN 0 * a; rw [show lN 0 = 0 from rfl, Int64.zero_mul]
  | n + 1 => by
    show sumL (fun _ => a) n + a = lN (n + 1) * a
    rw [sumL_const a n, ← lN_1]
    grind
/-- how great the numbers of a row may be, so that none wraps -/
def Bd (p : Nat) (r : Nat → Int64) : Prop := ∀ i, i < p → (r i).toInt.natAbs < 2 ^ 55
theorem mul0 {q : Nat} (hq : 0 < q) (hq2 : q ≤ 60) {a : Int64} (ha : a.toInt.natAbs < 2 ^ 55) (h : lN q * a = 0) : a = 0 := by
  have h1 := congrArg Int64.toInt h
  rw [Int64.toInt_mul, lN_toInt (by omega)] at h1
  have h2 : ((q : Int) * a.toInt).natAbs < 2 ^ 62 := by
    rw [Int.natAbs_mul, Int.natAbs_natCast]
    have : q * a.toInt.natAbs ≤ 60 * a.toInt.natAbs := Nat.mul_le_mul_right _ hq2
    omega
  rw [Int.bmod_eq_of_le_mul_two (by omega) (by omega)] at h1
  have h3 : (q : Int) * a.toInt = 0 := h1
  rcases Int.mul_eq_zero.mp h3 with h4 | h4
  · omega
  · exact Int64.toInt_inj.mp h4
theorem tv_it {N : Nat} (hN : N ≤ 60) (hN3 : 3 ≤ N) {s : Nat} {r : Nat → Int64} (h : Lk (phi N) (tv N s r) r) : ∀ k, Lk (phi N) (tv N (k * s) r) r
  | 0 => fun i hi => by rw [Nat.zero_mul, tv_0 r hi]
  | k + 1 => fun i hi => by
    rw [Nat.add_mul, Nat.one_mul, ← tv_add hN hN3 s r (k * s) i hi, tv_congr h]
    exact tv_it hN hN3 h k i hi
/-- only the row of noughts comes round early -/
theorem tv_free {N s : Nat} (hN : N ≤ 60) (hN3 : 3 ≤ N) (hs0 : 0 < s) (hs : s < N) {r : Nat → Int64} (hb : Bd (phi N) r) (h : Lk (phi N) (tv N s r) r) : Lk (phi N) r Z0 := by
  intro i hi
  obtain ⟨k, hk⟩ := bez N s hN hs0 hs
  have hd0 : 0 < Nat.gcd s N := Nat.gcd_pos_of_pos_left _ hs0
  have hdl : Nat.gcd s N < N := Nat.lt_of_le_of_lt (Nat.gcd_le_left _ hs0) hs
  have hdN : N % Nat.gcd s N = 0 := Nat.mod_eq_zero_of_dvd (Nat.gcd_dvd_right s N)
  have h1 : Lk (phi N) (tv N (Nat.gcd s N) r) r := fun i hi => by
    rw [← hk, tv_mod hN hN3]
    exact tv_it hN hN3 h k i hi
  generalize Nat.gcd s N = d at *
  have hq0 : 0 < N / d := Nat.div_pos (by omega) hd0
  have hq1 : N / d ≤ 60 := Nat.le_trans (Nat.div_le_self _ _) hN
  refine mul0 hq0 hq1 (hb i hi) ?_
  rw [← sumL_const, ← sumL_congr _ (fun j _ => tv_it hN hN3 h1 j i hi)]
  unfold tv
  rw [sumL_comm]
  refine sumL_zero _ (fun k hk => ?_)
  rw [sumL_mul, ← sumZ_cast, pw_div0k N d hN hN3 hd0 hdN hdl k i hi]
  exact Int64.mul_zero
/-- what gathering a turned row and reducing gives -/
theorem red_ga (N i : Nat) (ix : Nat → Nat) (v f : Nat → Int64) : ∀ m, (∀ j, j < m → ix j < N) → redV N (gaF ix v m f) i = redV N f i + sumL (fun j => v j * Int64.ofInt (pw N (ix j) i)) m
  | 0, _ => by
    show redV N f i = redV N f i + 0
    rw [Int64.add_zero]
  | m + 1, h => by
    have ih := red_ga N i ix v f m (fun j hj => h j (by omega))
    have e : redV N (gaF ix v (m + 1) f) i = redV N (gaF ix v m f) i + v m * Int64.ofInt (pw N (ix m) i) := by
      unfold redV
      have hx := h m (by omega)
      generalize hF : gaF ix v m f = F at *
      have : ∀ k, k < N → (gaF ix v (m + 1) f) k * Int64.ofInt (pw N k i) = F k * Int64.ofInt (pw N k i) + (if k = ix m then v m * Int64.ofInt (pw N (ix m) i) else 0) := by
        intro k _
        show vp_updL (gaF ix v m f) (ix m) (gaF ix v m f (ix m) + v m) k * _ = _
        rw [hF]
        unfold vp_updL
        by_cases e : k = ix m
        · rw [if_pos e, if_pos e, e]
          grind
        · rw [if_neg e, if_neg e, Int64.add_zero]
      rw [sumL_congr _ this, sumL_add, sumL_one (fun k => if k = ix m then v m * Int64.ofInt (pw N (ix m) i) else 0) hx (fun k _ hne => if_neg hne), if_pos rfl]
    rw [e, ih]
    show _ = redV N f i + (sumL _ m + _)
    rw [Int64.add_assoc]
theorem red_Z (N i : Nat) : redV N Z0 i = 0 := sumL_zero _ (fun k _ => by show (0 : Int64) * _ = 0; rw [Int64.zero_mul])
/-- the model's turning -/
theorem tv_red {N : Nat} (hN : N ≤ 60) (hN3 : 3 ≤ N) (t : Nat) (r : Nat → Int64) (i : Nat) : redV N (gaF (fun j => (t + j) % N) r (phi N) Z0) i = tv N t r i := by
  rw [red_ga N i _ _ _ _ (fun j _ => Nat.mod_lt _ (by omega)), red_Z, Int64.zero_add]
  unfold tv
  exact sumL_congr _ (fun k _ => by rw [pw_mod N hN hN3])
