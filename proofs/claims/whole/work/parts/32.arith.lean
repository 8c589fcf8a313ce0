theorem i32_b (x : Int32) : x.toInt.bmod (2 ^ 32) = x.toInt := by
  have h1 := x.toInt_lt
  have h2 := x.le_toInt
  exact Int.bmod_eq_of_le_mul_two (by omega) (by omega)
theorem i64_b (x : Int64) : x.toInt.bmod (2 ^ 64) = x.toInt := by
  have h1 := x.toInt_lt
  have h2 := x.le_toInt
  exact Int.bmod_eq_of_le_mul_two (by omega) (by omega)
theorem i32_rem (x z : Int32) : x - x / z * z = x % z := by
  apply Int32.toInt.inj
  rw [← i32_b (x % z), Int32.toInt_mod, Int32.toInt_sub, Int32.toInt_mul, Int32.toInt_div, Int.sub_bmod_bmod, Int.tmod_def, Int.mul_comm]
  rw [← Int.sub_bmod_bmod, Int.mul_bmod_bmod, Int.sub_bmod_bmod]
theorem i64_rem (x z : Int64) : x - x / z * z = x % z := by
  apply Int64.toInt.inj
  rw [← i64_b (x % z), Int64.toInt_mod, Int64.toInt_sub, Int64.toInt_mul, Int64.toInt_div, Int.sub_bmod_bmod, Int.tmod_def, Int.mul_comm]
  rw [← Int.sub_bmod_bmod, Int.mul_bmod_bmod, Int.sub_bmod_bmod]
theorem i32_xor (x z : Int32) (hz : 0 ≤ z.toInt) : 0 ≤ x ^^^ z ↔ 0 ≤ x.toInt := by
  have key : ∀ a : Int32, 0 ≤ a ↔ a.toBitVec.msb = false := by
    intro a
    rw [BitVec.msb_eq_toInt, i32_le]
    have : (0 : Int32).toInt = 0 := rfl
    rw [this]
    show 0 ≤ a.toBitVec.toInt ↔ _
    simp
  have k2 : ∀ a : Int32, 0 ≤ a.toInt ↔ a.toBitVec.msb = false := fun a => by
    rw [← key, i32_le]
    exact Iff.rfl
  rw [key, k2, Int32.toBitVec_xor, BitVec.msb_xor, (k2 z).mp hz, Bool.xor_false]
theorem i64_xor (x z : Int64) (hz : 0 ≤ z.toInt) : 0 ≤ x ^^^ z ↔ 0 ≤ x.toInt := by
  have key : ∀ a : Int64, 0 ≤ a ↔ a.toBitVec.msb = false := by
    intro a
    rw [BitVec.msb_eq_toInt, i64_le]
    have : (0 : Int64).toInt = 0 := rfl
    rw [this]
    show 0 ≤ a.toBitVec.toInt ↔ _
    simp
  have k2 : ∀ a : Int64, 0 ≤ a.toInt ↔ a.toBitVec.msb = false := fun a => by
    rw [← key, i64_le]
    exact Iff.rfl
  rw [key, k2, Int64.toBitVec_xor, BitVec.msb_xor, (k2 z).mp hz, Bool.xor_false]
/-- a whole number brought by whole m into 0 .. m - 1 -/
def md (z : Int) (m : Nat) : Nat := (z % (m : Int)).toNat
theorem md_lt (z : Int) {m : Nat} (h : 0 < m) : md z m < m := by
  unfold md
  have h1 := Int.emod_nonneg z (show (m : Int) ≠ 0 by omega)
  have h2 := Int.emod_lt_of_pos z (show (0 : Int) < m by omega)
  omega
theorem md_cast (z : Int) {m : Nat} (h : 0 < m) : ((md z m : Nat) : Int) = z % (m : Int) := by
  unfold md
  have h1 := Int.emod_nonneg z (show (m : Int) ≠ 0 by omega)
  omega
theorem md_nat (a : Nat) {m : Nat} : md (a : Int) m = a % m := by
  unfold md
  have : ((a : Int) % (m : Int)) = ((a % m : Nat) : Int) := by simp
  rw [this]
  exact Int.toNat_natCast _
theorem tmod_md (a : Int) {m : Nat} (h : 0 < m) : (0 ≤ a → a.tmod m = md a m) ∧ (a < 0 → (a.tmod m = 0 ∧ md a m = 0) ∨ (a.tmod m < 0 ∧ a.tmod m + m = md a m)) := by
  have h1 := md_cast a h
  have h2 := md_lt a h
  refine ⟨fun ha => ?_, fun ha => ?_⟩
  · rw [Int.tmod_eq_emod_of_nonneg ha, h1]
  · have h3 := Int.tmod_eq_emod (a := a) (b := m)
    rw [← h1] at h3
    by_cases hz : (m : Int) ∣ a
    · left
      have : a % (m : Int) = 0 := Int.emod_eq_zero_of_dvd hz
      rw [if_pos (Or.inr hz)] at h3
      omega
    · right
      rw [if_neg (by intro q; rcases q with q | q; omega; exact hz q)] at h3
      have e : ((m : Int).natAbs : Int) = m := by simp
      omega
/-- lcmp's answer against 0 -/
theorem lg_cases (x z : Int64) : (x < z ∧ lg_cmp x z = -1) ∨ (x = z ∧ lg_cmp x z = 0) ∨ (z < x ∧ lg_cmp x z = 1) := by
  unfold lg_cmp
  by_cases h1 : z < x
  · right
    right
    exact ⟨h1, if_pos h1⟩
  · by_cases h2 : x = z
    · right
      left
      exact ⟨h2, by rw [if_neg h1, if_pos h2]⟩
    · left
      have h3 : x < z := by
        rw [i64_lt] at h1 ⊢
        have : x.toInt ≠ z.toInt := fun q => h2 (Int64.toInt.inj q)
        omega
      exact ⟨h3, by rw [if_neg h1, if_neg h2]⟩
theorem lg_ge0 {x z : Int64} : 0 ≤ lg_cmp x z ↔ z ≤ x := by
  rcases lg_cases x z with ⟨h, e⟩ | ⟨h, e⟩ | ⟨h, e⟩ <;> rw [e] <;> rw [i64_le] <;> try rw [i64_lt] at h
  · exact ⟨fun q => absurd q (by decide), fun q => by omega⟩
  · exact ⟨fun _ => by rw [h]; exact Int.le_refl _, fun _ => by decide⟩
  · exact ⟨fun _ => by omega, fun _ => by decide⟩
theorem lg_ge0' {x z : Int64} : 0 ≤ lg_cmp x z ↔ z ≤ x := lg_ge0
theorem lg_le {x z : Int64} : lg_cmp x z ≤ 0 ↔ x ≤ z := by
  rcases lg_cases x z with ⟨h, e⟩ | ⟨h, e⟩ | ⟨h, e⟩ <;> rw [e] <;> rw [i64_le] <;> try rw [i64_lt] at h
  · exact ⟨fun _ => by omega, fun _ => by decide⟩
  · exact ⟨fun _ => by rw [h]; exact Int.le_refl _, fun _ => by decide⟩
  · exact ⟨fun q => absurd q (by decide), fun q => by omega⟩
theorem lg_eq {x z : Int64} : lg_cmp x z = 0 ↔ x = z := by
  rcases lg_cases x z with ⟨h, e⟩ | ⟨h, e⟩ | ⟨h, e⟩ <;> rw [e]
  · exact ⟨fun q => absurd q (by decide), fun q => by rw [q, i64_lt] at h; omega⟩
  · exact ⟨fun _ => h, fun _ => rfl⟩
  · exact ⟨fun q => absurd q (by decide), fun q => by rw [q, i64_lt] at h; omega⟩
theorem lg_lt {x z : Int64} : lg_cmp x z < 0 ↔ x < z := by
  rcases lg_cases x z with ⟨h, e⟩ | ⟨h, e⟩ | ⟨h, e⟩ <;> rw [e]
  · exact ⟨fun _ => h, fun _ => by decide⟩
  · exact ⟨fun q => absurd q (by decide), fun q => by rw [h, i64_lt] at q; omega⟩
  · exact ⟨fun q => absurd q (by decide), fun q => by rw [i64_lt] at h q; omega⟩
theorem lg_gt {x z : Int64} : 0 < lg_cmp x z ↔ z < x := by
  rcases lg_cases x z with ⟨h, e⟩ | ⟨h, e⟩ | ⟨h, e⟩ <;> rw [e]
  · exact ⟨fun q => absurd q (by decide), fun q => by rw [i64_lt] at h q; omega⟩
  · exact ⟨fun q => absurd q (by decide), fun q => by rw [h, i64_lt] at q; omega⟩
  · exact ⟨fun _ => h, fun _ => by decide⟩
theorem lz_ge {x : Int64} : 0 ≤ lg_cmp x (lN (0 : Fin 2).val) ↔ 0 ≤ x := lg_ge0
theorem lz_le {x : Int64} : lg_cmp x (lN (0 : Fin 2).val) ≤ 0 ↔ x ≤ 0 := lg_le
theorem lz_eq {x : Int64} : lg_cmp x (lN (0 : Fin 2).val) = 0 ↔ x = 0 := lg_eq
theorem lz_lt {x : Int64} : lg_cmp x (lN (0 : Fin 2).val) < 0 ↔ x < 0 := lg_lt
theorem lz_gt {x : Int64} : 0 < lg_cmp x (lN (0 : Fin 2).val) ↔ 0 < x := lg_gt
section ARITH
variable {X : ab_X} {l : Launch}
theorem nI_of_toInt {x : Int32} {k : Nat} (h : x.toInt = (k : Int)) : x = nI k := by
  have h1 := x.toInt_lt
  exact Int32.toInt.inj (by rw [h, nI_toInt (by omega)])
theorem lN_of_toInt {x : Int64} {k : Nat} (h : x.toInt = (k : Int)) : x = lN k := by
  have h1 := x.toInt_lt
  exact Int64.toInt.inj (by rw [h, pk_lT (by omega)])
theorem c_floorModI (x : Int32) (m : Nat) (hm : 0 < m) (hm2 : m < 2 ^ 31) (w : ab_W) (n : Nat) : ab_C X l i_Math_floorMod_II [.int x, .int (nI m)] w n 0 0 (ab_q1 (some (.int (nI (md x.toInt m)))) w n) := by
  have hmt : (nI m).toInt = (m : Int) := nI_toInt hm2
  have hlt := md_lt x.toInt hm
  have hr := tmod_md x.toInt hm
  have hq : (x % nI m).toInt = x.toInt.tmod m := by rw [Int32.toInt_mod, hmt]
  refine ab_metI cd_251 om_251 rfl (ab_sound ok_251 [] 50 ?_)
  refine And.intro (nI_ne0 hm hm2) ?_
  rw [i32_rem]
  refine And.intro (fun h => ?_) (fun h => ?_)
  · rw [i32_xor _ _ (by omega)] at h
    exact ⟨by rw [nI_of_toInt (x := x % nI m) (by rw [hq, hr.1 h])], rfl, rfl⟩
  · rw [i32_xor _ _ (by omega)] at h
    have hr2 := hr.2 (by omega)
    refine And.intro (fun h2 => ?_) (fun h2 => ?_)
    · have h3 : x.toInt.tmod m = 0 := by rw [← hq, h2]; rfl
      exact ⟨by rw [h2, show md x.toInt m = 0 by omega]; rfl, rfl, rfl⟩
    · have h3 : ¬ x.toInt.tmod m = 0 := fun z => h2 (Int32.toInt.inj (by rw [hq, z]; rfl))
      refine ⟨?_, rfl, rfl⟩
      rw [nI_of_toInt (x := x % nI m + nI m) (k := md x.toInt m) ?_]
      rw [Int32.toInt_add, hq, hmt, Int.bmod_eq_of_le_mul_two (by omega) (by omega)]
      omega
theorem c_floorModL (x z : Int64) (m : Nat) (hz : z = lN m) (hm : 0 < m) (hm2 : m < 2 ^ 31) (w : ab_W) (n : Nat) : ab_C X l i_Math_floorMod [.long x, .long z] w n 0 0 (ab_q1 (some (.long (lN (md x.toInt m)))) w n) := by
  subst hz
  have hmt : (lN m).toInt = (m : Int) := lN_toInt hm2
  have hlt := md_lt x.toInt hm
  have hr := tmod_md x.toInt hm
  have hq : (x % lN m).toInt = x.toInt.tmod m := by rw [Int64.toInt_mod, hmt]
  have hb1 := x.toInt_lt
  refine ab_metL cd_250 om_250 rfl rfl (ab_sound ok_250 [] 50 ?_)
  refine And.intro ((fun z => by have := congrArg Int64.toInt z; rw [hmt] at this; have h0 : (0 : Int64).toInt = 0 := rfl; omega)) ?_
  rw [i64_rem]
  refine And.intro (fun h => ?_) (fun h => ?_)
  · rw [lz_ge, i64_xor _ _ (by omega)] at h
    exact ⟨by rw [lN_of_toInt (x := x % lN m) (by rw [hq, hr.1 h])], rfl, rfl⟩
  · rw [lz_ge, i64_xor _ _ (by omega)] at h
    have hr2 := hr.2 (by omega)
    refine And.intro (fun h2 => ?_) (fun h2 => ?_)
    · rw [lz_eq] at h2
      have h3 : x.toInt.tmod m = 0 := by rw [← hq, h2]; rfl
      exact ⟨by rw [h2, show md x.toInt m = 0 by omega]; rfl, rfl, rfl⟩
    · rw [lz_eq] at h2
      have h3 : ¬ x.toInt.tmod m = 0 := fun z => h2 (Int64.toInt.inj (by rw [hq, z]; rfl))
      refine ⟨?_, rfl, rfl⟩
      rw [lN_of_toInt (x := x % lN m + lN m) (k := md x.toInt m) ?_]
      rw [Int64.toInt_add, hq, hmt, Int.bmod_eq_of_le_mul_two (by omega) (by omega)]
      omega
theorem c_WP_wrap (x : Int32) (m : Nat) (hm : 0 < m) (hm2 : m < 2 ^ 31) (w : ab_W) (n : Nat) : ab_C X l i_WP_wrap [.int x, .int (nI m)] w n 0 0 (ab_q1 (some (.int (nI (md x.toInt m)))) w n) := by
  refine ab_metI cd_120 om_120 rfl (ab_sound ok_120 [] 50 ?_)
  refine And.intro (fun _ => ?_) (fun h_9 => absurd (nI_le (a := 1) hm hm2) h_9)
  (refine Exists.intro 0 ?_; refine ⟨0, _, Nat.zero_le _, Nat.zero_le _, c_floorModI x m hm hm2 w n, ?_⟩; rintro _ _ _ ⟨rfl, rfl, rfl⟩)
  exact ⟨rfl, rfl, rfl⟩
theorem c_WP_wrapLong (x : Int64) (m : Nat) (hm : 0 < m) (hm2 : m < 2 ^ 31) (w : ab_W) (n : Nat) : ab_C X l i_WP_wrapLong [.long x, .int (nI m)] w n 0 0 (ab_q1 (some (.int (nI (md x.toInt m)))) w n) := by
  refine ab_metI cd_119 om_119 rfl (ab_sound ok_119 [] 50 ?_)
  refine And.intro (fun _ => ?_) (fun h_9 => absurd (nI_le (a := 1) hm hm2) h_9)
  (refine Exists.intro 0 ?_; refine ⟨0, _, Nat.zero_le _, Nat.zero_le _, c_floorModL x _ m (nI_l hm2) hm hm2 w n, ?_⟩; rintro _ _ _ ⟨rfl, rfl, rfl⟩)
  exact ⟨by rw [lN_i], rfl, rfl⟩
theorem c_Mod_by (x : Int64) (m : Nat) (hm : 0 < m) (hm2 : m < 2 ^ 30) (w : ab_W) (n : Nat) {s : Nat → Int32} {wd tn : Int64} (h0 : w 90 = oMod s wd tn) (hs : s 38 = nI m) : ab_C X l i_Mod_by [.ref 90, .long x] w n 0 0 (ab_q1 (some (.int (nI (md x.toInt m)))) w n) := by
  obtain ⟨w, rfl⟩ := va_ex h0
  have hmt : (lN m).toInt = (m : Int) := lN_toInt (by omega)
  have hlt := md_lt x.toInt hm
  have hr := tmod_md x.toInt hm
  have hq : (x % lN m).toInt = x.toInt.tmod m := by rw [Int64.toInt_mod, hmt]
  have hr1 := Int.natAbs_tmod x.toInt m
  have hr3 : (x.toInt.tmod m).natAbs < m := by rw [hr1]; exact Nat.mod_lt _ (by simpa using hm)
  have hq2 : (x % lN m).toInt32.toInt = x.toInt.tmod m := by
    rw [Int64.toInt_toInt32, hq, Int.bmod_eq_of_le_mul_two (by omega) (by omega)]
  refine ab_metI cd_201 om_201 rfl (ab_sound ok_201 [] 50 ?_)
  refine And.intro ((fun z => by rw [hs, nI_l (by omega)] at z; have := congrArg Int64.toInt z; rw [hmt] at this; have h0 : (0 : Int64).toInt = 0 := rfl; omega)) ?_
  rw [i64_rem, hs, nI_l (by omega)]
  refine And.intro (fun h => ?_) (fun h => ?_)
  · rw [i32_le, hq2] at h
    have h9 : (0 : Int32).toInt = 0 := rfl
    refine ⟨?_, rfl, rfl⟩
    rw [nI_of_toInt (x := (x % lN m).toInt32) (k := md x.toInt m) ?_]
    rw [hq2]
    by_cases hx : 0 ≤ x.toInt
    · exact hr.1 hx
    · have := hr.2 (by omega)
      omega
  · rw [i32_le, hq2] at h
    have h9 : (0 : Int32).toInt = 0 := rfl
    refine ⟨?_, rfl, rfl⟩
    show some (Value.int ((x % lN m).toInt32 + s 38)) = _
    rw [hs, nI_of_toInt (x := (x % lN m).toInt32 + nI m) (k := md x.toInt m) ?_]
    have hx : x.toInt < 0 := by
      by_cases hx : 0 ≤ x.toInt
      · have := hr.1 hx
        omega
      · omega
    have := hr.2 hx
    rw [Int32.toInt_add, hq2, nI_toInt (by omega), Int.bmod_eq_of_le_mul_two (by omega) (by omega)]
    omega
/-- Fibonacci's numbers, two at a time -/
def fb : Nat → Nat × Nat
  | 0 => (0, 1)
  | k + 1 => ((fb k).2, (fb k).1 + (fb k).2)
/-- Euclid's steps: within k of them, from (x, y) -/
def eu : Nat → Nat → Nat → Prop
  | 0, _, y => y = 0
  | k + 1, x, y => y = 0 ∨ eu k y (x % y)
theorem eu_of : ∀ (k x y : Nat), y < x → (y < (fb k).2 ∨ x < (fb k).1 + (fb k).2) → eu k x y
  | 0, x, y, h, hq => by
    simp only [fb] at hq
    show y = 0
    omega
  | k + 1, x, y, h, hq => by
    by_cases hy : y = 0
    · exact Or.inl hy
    · right
      have hr := Nat.mod_lt x (Nat.pos_of_ne_zero hy)
      refine eu_of k y (x % y) hr ?_
      simp only [fb] at hq
      have hle : y + x % y ≤ x := by
        have h1 := Nat.div_add_mod x y
        have h2 : 1 ≤ x / y := (Nat.le_div_iff_mul_le (Nat.pos_of_ne_zero hy)).mpr (by omega)
        have h3 : y * 1 ≤ y * (x / y) := Nat.mul_le_mul_left y h2
        omega
      omega
theorem fb92 : 2 ^ 62 < (fb 91).2 := by decide +kernel
theorem eu_ok (x y : Nat) (hy : y < 2 ^ 62) : eu 99 x y := by
  by_cases h0 : y = 0
  · exact Or.inl h0
  · right
    have hr := Nat.mod_lt x (Nat.pos_of_ne_zero h0)
    have h1 := eu_of 91 y (x % y) hr (Or.inl (by have := fb92; omega))
    have mono : ∀ (k a b : Nat), eu k a b → eu (k + 1) a b := by
      intro k
      induction k with
      | zero => intro a b h; exact Or.inl h
      | succ k ih =>
        intro a b h
        rcases h with h | h
        · exact Or.inl h
        · exact Or.inr (ih _ _ h)
    exact mono _ _ _ (mono _ _ _ (mono _ _ _ (mono _ _ _ (mono _ _ _ (mono _ _ _ (mono _ _ _ h1))))))
theorem lN_rem {a b : Nat} (ha : a < 2 ^ 63) (h0 : 0 < b) (hb : b < 2 ^ 63) : lN a % lN b = lN (a % b) := by
  rw [← i64_rem]
  exact pk_lRem ha h0 hb
theorem lN_neg {x : Int64} (h : x.toInt < 0) (h2 : -2 ^ 63 < x.toInt) : -x = lN x.toInt.natAbs := by
  apply lN_of_toInt
  have h1 := x.le_toInt
  rw [Int64.toInt_neg, Int.bmod_eq_of_le_mul_two (by omega) (by omega)]
  omega
theorem lN_abs {x : Int64} (h : 0 ≤ x.toInt) : x = lN x.toInt.natAbs := by
  apply lN_of_toInt
  omega
theorem c_commonDivisor (a b : Int64) (ha : a.toInt.natAbs < 2 ^ 62) (hb : b.toInt.natAbs < 2 ^ 62) (w : ab_W) (n : Nat) : ab_C X l i_WP_commonDivisor [.long a, .long b] w n 0 0 (ab_q1 (some (.long (lN (Nat.gcd a.toInt.natAbs b.toInt.natAbs)))) w n) := by
  have loop : ∀ (k x y : Nat) (ls9 ls10 : Option Value), x < 2 ^ 63 → y < 2 ^ 62 → k ≤ 99 → eu k x y → ab_Ev X l i_WP_commonDivisor 31 [some (.long a), none, some (.long b), none, some (.long (lN x)), none, some (.long (lN y)), none, some (.int (nI (99 - k))), ls9, ls10] [] w n 0 0 (ab_q1 (some (.long (lN (Nat.gcd x y)))) w n) := by
    intro k
    induction k with
    | zero =>
      intro x y l9 l10 hx hy hk he
      have e0 : y = 0 := he
      subst e0
      refine ab_sound ok_110 [31] 50 ?_
      refine And.intro (fun h_9 => absurd h_9 (nI_ge (by omega) (by omega))) (fun _ => ?_)
      refine And.intro (fun _ => ?_) (fun h_9 => absurd (lz_eq.mpr rfl) h_9)
      exact ⟨by rw [Nat.gcd_zero_right], rfl, rfl⟩
    | succ k ih =>
      intro x y l9 l10 hx hy hk he
      refine ab_sound ok_110 [31] 50 ?_
      refine And.intro (fun h_9 => absurd h_9 (nI_ge (by omega) (by omega))) (fun _ => ?_)
      by_cases h0 : y = 0
      · subst h0
        refine And.intro (fun _ => ?_) (fun h_9 => absurd (lz_eq.mpr rfl) h_9)
        exact ⟨by rw [Nat.gcd_zero_right], rfl, rfl⟩
      · have hne : ¬ lN y = 0 := fun z => h0 ((pk_lEQ (b := 0) (by omega) (by omega)).mp z)
        refine And.intro (fun h_9 => absurd h_9 ((fun z => hne (lz_eq.mp z)))) (fun _ => ?_)
        refine And.intro (hne) ?_
        rw [i64_rem, lN_rem hx (by omega) (by omega)]
        have he2 : eu k y (x % y) := he.resolve_left h0
        have hr := Nat.mod_lt x (Nat.pos_of_ne_zero h0)
        have := ih y (x % y) (some (.long (lN (x % y)))) none (by omega) (by omega) (by omega) he2
        rw [show Nat.gcd x y = Nat.gcd y (x % y) by rw [Nat.gcd_comm x y, Nat.gcd_rec y x, Nat.gcd_comm]]
        refine ab_ev_of this ?_ rfl rfl
        rw [show 99 - k = (99 - (k + 1)) + 1 by omega, ← nI_add]
        rfl
  refine ab_metL cd_110 om_110 rfl rfl (ab_sound ok_110 [31] 50 ?_)
  have fin : ∀ (x y : Nat) , x = a.toInt.natAbs → y = b.toInt.natAbs → ab_Ev X l i_WP_commonDivisor 31 [some (.long a), none, some (.long b), none, some (.long (lN x)), none, some (.long (lN y)), none, some (.int (nI 0)), none, none] [] w n 0 0 (ab_q1 (some (.long (lN (Nat.gcd a.toInt.natAbs b.toInt.natAbs)))) w n) := by
    intro x y hx hy
    subst hx hy
    exact loop 99 _ _ none none (by omega) (by omega) (by omega) (eu_ok _ _ hb)
  refine And.intro (fun h1 => ?_) (fun h1 => ?_)
  · rw [lz_ge, i64_le] at h1
    have h9 : (0 : Int64).toInt = 0 := rfl
    refine And.intro (fun h2 => ?_) (fun h2 => ?_)
    · rw [lz_ge, i64_le] at h2
      exact ab_ev_of (fin _ _ rfl rfl) (by rw [← lN_abs (x := a) (by omega), ← lN_abs (x := b) (by omega)]; rfl) rfl rfl
    · rw [lz_ge, i64_le] at h2
      exact ab_ev_of (fin _ _ rfl rfl) (by rw [← lN_abs (x := a) (by omega), ← lN_neg (x := b) (by omega) (by omega)]; rfl) rfl rfl
  · rw [lz_ge, i64_le] at h1
    have h9 : (0 : Int64).toInt = 0 := rfl
    refine And.intro (fun h2 => ?_) (fun h2 => ?_)
    · rw [lz_ge, i64_le] at h2
      exact ab_ev_of (fin _ _ rfl rfl) (by rw [← lN_neg (x := a) (by omega) (by omega), ← lN_abs (x := b) (by omega)]; rfl) rfl rfl
    · rw [lz_ge, i64_le] at h2
      exact ab_ev_of (fin _ _ rfl rfl) (by rw [← lN_neg (x := a) (by omega) (by omega), ← lN_neg (x := b) (by omega) (by omega)]; rfl) rfl rfl
theorem c_Mod_divisor (a b : Int64) (ha : a.toInt.natAbs < 2 ^ 62) (hb : b.toInt.natAbs < 2 ^ 62) (w : ab_W) (n : Nat) : ab_C X l i_Mod_divisor [.long a, .long b] w n 0 0 (ab_q1 (some (.long (lN (Nat.gcd a.toInt.natAbs b.toInt.natAbs)))) w n) := by
  have loop : ∀ (k x y : Nat) (ls9 ls10 : Option Value), y ≤ k → x < 2 ^ 63 → y < 2 ^ 62 → ab_Ev X l i_Mod_divisor 28 [some (.long a), none, some (.long b), none, some (.long (lN x)), none, some (.long (lN y)), none, ls9, ls10] [] w n 0 0 (ab_q1 (some (.long (lN (Nat.gcd x y)))) w n) := by
    intro k
    induction k with
    | zero =>
      intro x y l9 l10 hk hx hy
      have e0 : y = 0 := by omega
      subst e0
      refine ab_sound ok_179 [28] 50 ?_
      refine And.intro (fun _ => ?_) (fun h_9 => absurd (lz_le.mpr (by rw [i64_le]; exact Int.le_refl _)) h_9)
      exact ⟨by rw [Nat.gcd_zero_right], rfl, rfl⟩
    | succ k ih =>
      intro x y l9 l10 hk hx hy
      refine ab_sound ok_179 [28] 50 ?_
      by_cases h0 : y = 0
      · subst h0
        refine And.intro (fun _ => ?_) (fun h_9 => absurd (lz_le.mpr (by rw [i64_le]; exact Int.le_refl _)) h_9)
        exact ⟨by rw [Nat.gcd_zero_right], rfl, rfl⟩
      · have hne : ¬ lN y = 0 := fun z => h0 ((pk_lEQ (b := 0) (by omega) (by omega)).mp z)
        refine And.intro (fun h_9 => absurd h_9 ((fun z => h0 (by have := (pk_lLE (b := 0) (by omega) (by omega)).mp (lz_le.mp z); omega)))) (fun _ => ?_)
        refine And.intro (hne) ?_
        rw [i64_rem, lN_rem hx (by omega) (by omega)]
        have hr := Nat.mod_lt x (Nat.pos_of_ne_zero h0)
        have := ih y (x % y) (some (.long (lN (x % y)))) none (by omega) (by omega) (by omega)
        rw [show Nat.gcd x y = Nat.gcd y (x % y) by rw [Nat.gcd_comm x y, Nat.gcd_rec y x, Nat.gcd_comm]]
        exact ab_ev_of this rfl rfl rfl
  refine ab_metL cd_179 om_179 rfl rfl (ab_sound ok_179 [28] 50 ?_)
  have fin : ∀ (x y : Nat) , x = a.toInt.natAbs → y = b.toInt.natAbs → ab_Ev X l i_Mod_divisor 28 [some (.long a), none, some (.long b), none, some (.long (lN x)), none, some (.long (lN y)), none, none, none] [] w n 0 0 (ab_q1 (some (.long (lN (Nat.gcd a.toInt.natAbs b.toInt.natAbs)))) w n) := by
    intro x y hx hy
    subst hx hy
    exact loop _ _ _ none none (Nat.le_refl _) (by omega) (by omega)
  refine And.intro (fun h1 => ?_) (fun h1 => ?_)
  · rw [lz_ge, i64_le] at h1
    have h9 : (0 : Int64).toInt = 0 := rfl
    refine And.intro (fun h2 => ?_) (fun h2 => ?_)
    · rw [lz_ge, i64_le] at h2
      exact ab_ev_of (fin _ _ rfl rfl) (by rw [← lN_abs (x := a) (by omega), ← lN_abs (x := b) (by omega)]; rfl) rfl rfl
    · rw [lz_ge, i64_le] at h2
      exact ab_ev_of (fin _ _ rfl rfl) (by rw [← lN_abs (x := a) (by omega), ← lN_neg (x := b) (by omega) (by omega)]; rfl) rfl rfl
  · rw [lz_ge, i64_le] at h1
    have h9 : (0 : Int64).toInt = 0 := rfl
    refine And.intro (fun h2 => ?_) (fun h2 => ?_)
    · rw [lz_ge, i64_le] at h2
      exact ab_ev_of (fin _ _ rfl rfl) (by rw [← lN_neg (x := a) (by omega) (by omega), ← lN_abs (x := b) (by omega)]; rfl) rfl rfl
    · rw [lz_ge, i64_le] at h2
      exact ab_ev_of (fin _ _ rfl rfl) (by rw [← lN_neg (x := a) (by omega) (by omega), ← lN_neg (x := b) (by omega) (by omega)]; rfl) rfl rfl
end ARITH
