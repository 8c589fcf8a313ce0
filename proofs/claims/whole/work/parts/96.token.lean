/-! tokens, pure -/
theorem nb_t {b : Bool} (h : (!b) = false) : b = true := by
  cases b
  · exact absurd h (by decide)
  · rfl
theorem nb_f {b : Bool} (h : (!b) = true) : b = false := by
  cases b
  · rfl
  · exact absurd h (by decide)
def fsF (P : Nat → Bool) : Nat → Nat → Nat
  | 0, p => p
  | f + 1, p => if P p = true then p else fsF P f (p + 1)
/-- the first place from p on, below e, where P holds; e if there is none -/
def fs (P : Nat → Bool) (e p : Nat) : Nat := fsF P (e - p) p
theorem fsF_spec (P : Nat → Bool) : ∀ f p, p ≤ fsF P f p ∧ fsF P f p ≤ p + f ∧ (∀ i, p ≤ i → i < fsF P f p → P i = false) ∧ (fsF P f p < p + f → P (fsF P f p) = true)
  | 0, p => ⟨Nat.le_refl _, Nat.le_refl _, fun i h1 h2 => absurd h2 (by show ¬ i < p; omega), fun h => absurd h (by show ¬ p < p + 0; omega)⟩
  | f + 1, p => by
    unfold fsF
    by_cases e : P p = true
    · rw [if_pos e]
      exact ⟨Nat.le_refl _, by omega, fun i h1 h2 => absurd h2 (by omega), fun _ => e⟩
    · rw [if_neg e]
      obtain ⟨h1, h2, h3, h4⟩ := fsF_spec P f (p + 1)
      refine ⟨by omega, by omega, fun i a b => ?_, fun h => h4 (by omega)⟩
      by_cases e2 : i = p
      · rw [e2]; exact Bool.eq_false_iff.mpr e
      · exact h3 i (by omega) b
theorem fs_ge {P : Nat → Bool} {e p : Nat} : p ≤ fs P e p := (fsF_spec P (e - p) p).1
theorem fs_le {P : Nat → Bool} {e p : Nat} (h : p ≤ e) : fs P e p ≤ e := by
  have := (fsF_spec P (e - p) p).2.1
  unfold fs
  omega
theorem fs_no {P : Nat → Bool} {e p i : Nat} (h : p ≤ i) (h2 : i < fs P e p) : P i = false := (fsF_spec P (e - p) p).2.2.1 i h h2
theorem fs_yes {P : Nat → Bool} {e p : Nat} (h : fs P e p < e) : P (fs P e p) = true := by
  have h1 := (fsF_spec P (e - p) p).1
  unfold fs at h
  exact (fsF_spec P (e - p) p).2.2.2 (by omega)
theorem fs_past {P : Nat → Bool} {e p : Nat} (h : e ≤ p) : fs P e p = p := by
  unfold fs
  rw [show e - p = 0 by omega]
  rfl
theorem fs_uniq {P : Nat → Bool} {e p q : Nat} (h0 : p ≤ e) (h1 : p ≤ q) (h2 : q ≤ e) (h3 : ∀ i, p ≤ i → i < q → P i = false) (h4 : q < e → P q = true) : fs P e p = q := by
  have a1 := @fs_ge P e p
  have a2 := @fs_le P e p h0
  by_cases c : fs P e p < q
  · have := fs_yes (P := P) (e := e) (p := p) (by omega)
    rw [h3 _ a1 c] at this
    exact absurd this (by decide)
  · by_cases d : q < fs P e p
    · have := h4 (by omega)
      rw [fs_no h1 d] at this
      exact absurd this (by decide)
    · omega
theorem fs_cap {P : Nat → Bool} {e e2 p : Nat} (h : p ≤ e2) (h2 : e2 ≤ e) : fs P e2 p = min (fs P e p) e2 := by
  have a1 := @fs_ge P e p
  have a2 := @fs_le P e p (by omega)
  refine fs_uniq h (by omega) (by omega) (fun i b c => fs_no (e := e) b (by omega)) (fun c => ?_)
  rw [show min (fs P e p) e2 = fs P e p by omega]
  exact fs_yes (by omega)
/-- the letters from q on as one number -/
def cdB (b : Nat) (tb : Nat → Int32) (q : Nat) : Nat → Nat
  | 0 => 0
  | m + 1 => b * cdB b tb q m + ((tb (q + m)).toInt.toNat - 96)
def nuB (tb : Nat → Int32) (q : Nat) : Nat → Nat
  | 0 => 0
  | m + 1 => 10 * nuB tb q m + ((tb (q + m)).toInt.toNat - 48)
abbrev alL (tb : Nat → Int32) (q m : Nat) : Prop := ∀ i, i < m → leB (tb (q + i)) = true
abbrev alD (tb : Nat → Int32) (q m : Nat) : Prop := ∀ i, i < m → diB (tb (q + i)) = true
theorem leB_i {c : Int32} : leB c = true ↔ 97 ≤ c.toInt ∧ c.toInt ≤ 122 := by
  unfold leB
  rw [decide_eq_true_iff, i32_le, i32_le, nI_toInt (show 97 < 2 ^ 31 by omega), nI_toInt (show 122 < 2 ^ 31 by omega)]
  exact Iff.rfl
theorem diB_i {c : Int32} : diB c = true ↔ 48 ≤ c.toInt ∧ c.toInt ≤ 57 := by
  unfold diB
  rw [decide_eq_true_iff, i32_le, i32_le, nI_toInt (show 48 < 2 ^ 31 by omega), nI_toInt (show 57 < 2 ^ 31 by omega)]
  exact Iff.rfl
theorem alL_s {tb : Nat → Int32} {q m : Nat} (h : alL tb q (m + 1)) : alL tb q m ∧ 97 ≤ (tb (q + m)).toInt ∧ (tb (q + m)).toInt ≤ 122 := ⟨fun i hi => h i (by omega), leB_i.mp (h m (by omega))⟩
theorem alD_s {tb : Nat → Int32} {q m : Nat} (h : alD tb q (m + 1)) : alD tb q m ∧ 48 ≤ (tb (q + m)).toInt ∧ (tb (q + m)).toInt ≤ 57 := ⟨fun i hi => h i (by omega), diB_i.mp (h m (by omega))⟩
theorem dm_uniq {b x y d e : Nat} (hd : d < b) (he : e < b) (h : b * x + d = b * y + e) : x = y ∧ d = e := by
  have h1 : (b * x + d) / b = x := by rw [Nat.mul_add_div (by omega), Nat.div_eq_of_lt hd]; omega
  have h2 : (b * y + e) / b = y := by rw [Nat.mul_add_div (by omega), Nat.div_eq_of_lt he]; omega
  have h3 : x = y := by rw [← h1, ← h2, h]
  subst h3
  exact ⟨rfl, by omega⟩
theorem cd_inj {b : Nat} (hb : 27 ≤ b) {tb tc : Nat → Int32} {q r : Nat} : ∀ {m k : Nat}, alL tb q m → alL tc r k → cdB b tb q m = cdB b tc r k → m = k ∧ ∀ i, i < m → tb (q + i) = tc (r + i)
  | 0, 0, _, _, _ => ⟨rfl, fun i hi => absurd hi (by omega)⟩
  | 0, k + 1, _, h2, h => by
    obtain ⟨_, a1, a2⟩ := alL_s h2
    have h : 0 = b * cdB b tc r k + ((tc (r + k)).toInt.toNat - 96) := h
    omega
  | m + 1, 0, h1, _, h => by
    obtain ⟨_, a1, a2⟩ := alL_s h1
    have h : b * cdB b tb q m + ((tb (q + m)).toInt.toNat - 96) = 0 := h
    omega
  | m + 1, k + 1, h1, h2, h => by
    obtain ⟨a0, a1, a2⟩ := alL_s h1
    obtain ⟨b0, b1, b2⟩ := alL_s h2
    have h : b * cdB b tb q m + ((tb (q + m)).toInt.toNat - 96) = b * cdB b tc r k + ((tc (r + k)).toInt.toNat - 96) := h
    obtain ⟨e1, e2⟩ := dm_uniq (by omega) (by omega) h
    obtain ⟨e3, e4⟩ := cd_inj hb a0 b0 e1
    refine ⟨by omega, fun i hi => ?_⟩
    by_cases c : i = m
    · rw [c]
      apply Int32.toInt_inj.mp
      rw [e3]
      rw [e3] at a1 a2 e2
      omega
    · exact e4 i (by omega)
theorem cd_ext {b : Nat} {tb tc : Nat → Int32} {q r : Nat} : ∀ {m : Nat}, (∀ i, i < m → tb (q + i) = tc (r + i)) → cdB b tb q m = cdB b tc r m
  | 0, _ => rfl
  | m + 1, h => by
    show b * cdB b tb q m + ((tb (q + m)).toInt.toNat - 96) = b * cdB b tc r m + ((tc (r + m)).toInt.toNat - 96)
    rw [cd_ext (fun i hi => h i (by omega)), h m (by omega)]
theorem cd_lt {b : Nat} (hb : 27 ≤ b) {tb : Nat → Int32} {q : Nat} : ∀ {m : Nat}, alL tb q m → cdB b tb q m < b ^ m
  | 0, _ => by show 0 < b ^ 0; exact Nat.one_pos
  | m + 1, h => by
    obtain ⟨a0, a1, a2⟩ := alL_s h
    have := cd_lt hb a0
    show b * cdB b tb q m + ((tb (q + m)).toInt.toNat - 96) < b ^ (m + 1)
    rw [Nat.pow_succ, Nat.mul_comm (b ^ m)]
    have h2 : b * (cdB b tb q m + 1) ≤ b * b ^ m := Nat.mul_le_mul_left _ this
    rw [Nat.mul_add] at h2
    omega
theorem nu_lt {tb : Nat → Int32} {q : Nat} : ∀ {m : Nat}, alD tb q m → nuB tb q m < 10 ^ m
  | 0, _ => by show 0 < 10 ^ 0; exact Nat.one_pos
  | m + 1, h => by
    obtain ⟨a0, a1, a2⟩ := alD_s h
    have := nu_lt a0
    show 10 * nuB tb q m + ((tb (q + m)).toInt.toNat - 48) < 10 ^ (m + 1)
    rw [Nat.pow_succ]
    omega
def cvF : Nat → Nat → Nat
  | 0, _ => 0
  | f + 1, x => if x = 0 then 0 else 27 * cvF f (x / 32) + x % 32
/-- a word's number to the class, as the model has it -/
def cv (x : Nat) : Nat := cvF 6 x
theorem cvF_cd {tb : Nat → Int32} {q : Nat} : ∀ {f m : Nat}, m ≤ f → alL tb q m → cvF f (cdB 32 tb q m) = cdB 27 tb q m
  | 0, 0, _, _ => rfl
  | f + 1, 0, _, _ => by
    show (if (0 : Nat) = 0 then 0 else _) = 0
    rw [if_pos rfl]
  | f + 1, m + 1, hf, h => by
    obtain ⟨a0, a1, a2⟩ := alL_s h
    show (if 32 * cdB 32 tb q m + ((tb (q + m)).toInt.toNat - 96) = 0 then 0 else 27 * cvF f ((32 * cdB 32 tb q m + ((tb (q + m)).toInt.toNat - 96)) / 32) + (32 * cdB 32 tb q m + ((tb (q + m)).toInt.toNat - 96)) % 32) = 27 * cdB 27 tb q m + ((tb (q + m)).toInt.toNat - 96)
    rw [if_neg (by omega), show (32 * cdB 32 tb q m + ((tb (q + m)).toInt.toNat - 96)) / 32 = cdB 32 tb q m by omega, cvF_cd (by omega) a0]
    omega
/-- a number that a word has -/
def vd (x : Nat) : Prop := ∃ tb q m, m ≤ 6 ∧ alL tb q m ∧ x = cdB 32 tb q m
theorem vd_cv {x : Nat} {tb : Nat → Int32} {q m : Nat} (hm : m ≤ 6) (h : alL tb q m) (hx : x = cdB 32 tb q m) : cv x = cdB 27 tb q m := by
  rw [hx]
  exact cvF_cd hm h
theorem vd_inj {x y : Nat} (hx : vd x) (hy : vd y) : cv x = cv y ↔ x = y := by
  obtain ⟨tb, q, m, hm, ha, rfl⟩ := hx
  obtain ⟨tc, r, k, hk, hb, rfl⟩ := hy
  rw [vd_cv hm ha rfl, vd_cv hk hb rfl]
  refine ⟨fun h => ?_, fun h => ?_⟩
  · obtain ⟨e1, e2⟩ := cd_inj (by omega) ha hb h
    subst e1
    exact cd_ext e2
  · obtain ⟨e1, e2⟩ := cd_inj (by omega) ha hb h
    subst e1
    exact cd_ext e2
theorem pw_le {b m : Nat} (hb : 0 < b) (hm : m ≤ 6) : b ^ m ≤ b ^ 6 := Nat.pow_le_pow_right hb hm
theorem vd_lt {x : Nat} (hx : vd x) : x < 2 ^ 30 ∧ cv x < 2 ^ 30 := by
  obtain ⟨tb, q, m, hm, ha, rfl⟩ := hx
  rw [vd_cv hm ha rfl]
  have h1 := cd_lt (b := 32) (by omega) ha
  have h2 := cd_lt (b := 27) (by omega) ha
  have h3 := pw_le (b := 32) (by omega) hm
  have h4 := pw_le (b := 27) (by omega) hm
  constructor
  · omega
  · omega
/-- a tape: its bytes, its length, the limit of the text -/
abbrev TE : Type := (Nat → Int32) × Nat × Nat
def tB (T : TE) : Nat → Int32 := T.1
def tL (T : TE) : Nat := T.2.1
def tM (T : TE) : Nat := T.2.2
def tE (T : TE) : Nat := min (tL T) (tM T)
def anB (c : Int32) : Bool := leB c || diB c
def tQ (T : TE) (p : Nat) : Nat := fs (fun i => !blB (tB T i)) (tL T) p
def tR (T : TE) (q : Nat) : Nat := fs (fun i => !anB (tB T i)) (tL T) q
/-- the kind of a run -/
def rK (tb : Nat → Int32) (q m : Nat) : Nat := if alL tb q m ∧ m ≤ 6 then 2 else if alD tb q m ∧ m ≤ 3 then 3 else 1
def tK (T : TE) (p : Nat) : Nat := if tM T < tL T ∧ tM T ≤ tQ T p then 5 else if tL T ≤ tQ T p then 0 else if anB (tB T (tQ T p)) = true then rK (tB T) (tQ T p) (tR T (tQ T p) - tQ T p) else if sgB (tB T (tQ T p)) = true then 4 else 1
def tP (T : TE) (p : Nat) : Nat := if tM T < tL T ∧ tM T ≤ tQ T p then tM T else tQ T p
def tX (T : TE) (p : Nat) : Nat := if anB (tB T (tQ T p)) = true then tR T (tQ T p) else tQ T p + 1
def tV (T : TE) (p : Nat) : Nat := if tK T p = 2 then cdB 32 (tB T) (tQ T p) (tR T (tQ T p) - tQ T p) else if tK T p = 3 then nuB (tB T) (tQ T p) (tR T (tQ T p) - tQ T p) else (tB T (tQ T p)).toInt.toNat
