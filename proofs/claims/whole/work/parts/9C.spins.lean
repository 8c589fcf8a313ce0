/-! a wheel's arm and spin -/
def gU (u : Int) (lo : Nat) : Nat := Nat.gcd u.natAbs lo
def arU (u : Int) (lo : Nat) : Int := u / ((gU u lo : Nat) : Int)
def arL (u : Int) (lo : Nat) : Nat := lo / gU u lo
theorem ex_div {x : Int} {g : Nat} (hg : 0 < g) (hd : g ∣ x.natAbs) : ∃ k : Int, x = (g : Int) * k ∧ x / (g : Int) = k ∧ x.tdiv (g : Int) = k ∧ k.natAbs ≤ x.natAbs := by
  obtain ⟨k, hk⟩ : (g : Int) ∣ x := Int.ofNat_dvd_left.mpr hd
  refine ⟨k, hk, ?_, ?_, ?_⟩
  · rw [hk, Int.mul_ediv_cancel_left _ (by omega)]
  · rw [hk, Int.mul_tdiv_cancel_left _ (by omega)]
  · rw [hk, Int.natAbs_mul, Int.natAbs_natCast]
    exact Nat.le_mul_of_pos_left _ hg
theorem o32_i {x : Int} (h : x.natAbs < 2 ^ 31) : (Int32.ofInt x).toInt = x := Int32.toInt_ofInt_of_le (by omega) (by omega)
theorem o64_i {x : Int} (h : x.natAbs < 2 ^ 63) : (Int64.ofInt x).toInt = x := Int64.toInt_ofInt_of_le (by omega) (by omega)
theorem q64 {x : Int} {g : Nat} (hx : x.natAbs < 2 ^ 62) (hg : 0 < g) (hg2 : g < 2 ^ 62) (hd : g ∣ x.natAbs) : Int64.ofInt x / lN g = Int64.ofInt (x / (g : Int)) := by
  obtain ⟨k, h1, h2, h3, h4⟩ := ex_div hg hd
  apply Int64.toInt_inj.mp
  rw [Int64.toInt_div, o64_i (by omega), lN_toI (by omega), h2, h3, o64_i (by omega)]
  exact Int.bmod_eq_of_le_mul_two (by omega) (by omega)
theorem q32 {x : Int} {g : Nat} (hx : x.natAbs < 2 ^ 30) (hg : 0 < g) (hg2 : g < 2 ^ 30) (hd : g ∣ x.natAbs) : Int32.ofInt x / nI g = Int32.ofInt (x / (g : Int)) := by
  obtain ⟨k, h1, h2, h3, h4⟩ := ex_div hg hd
  apply Int32.toInt_inj.mp
  rw [Int32.toInt_div, o32_i (by omega), nI_toInt (by omega), h2, h3, o32_i (by omega)]
  exact Int.bmod_eq_of_le_mul_two (by omega) (by omega)
theorem nI_ofInt (k : Nat) : nI k = Int32.ofInt (k : Int) := (Int32.ofInt_eq_ofNat (n := k)).symm
theorem lN_ofInt (k : Nat) : lN k = Int64.ofInt (k : Int) := (Int64.ofInt_eq_ofNat (n := k)).symm
theorem mul_ab {x y : Int} {a b : Nat} (hx : x.natAbs ≤ a) (hy : y.natAbs ≤ b) : (x * y).natAbs ≤ a * b := by
  rw [Int.natAbs_mul]
  exact Nat.mul_le_mul hx hy
theorem gU_pos {u : Int} {lo : Nat} (h : 1 ≤ lo) : 0 < gU u lo ∧ gU u lo ≤ lo := ⟨Nat.gcd_pos_of_pos_right _ (by omega), Nat.gcd_le_right _ (by omega)⟩
theorem ar_ok {u : Int} {lo : Nat} (hu : u.natAbs ≤ 99) (h : 1 ≤ lo) (h2 : lo ≤ 99) : (arU u lo).natAbs ≤ 99 ∧ 1 ≤ arL u lo ∧ arL u lo ≤ 99 := by
  obtain ⟨g1, g2⟩ := gU_pos (u := u) h
  obtain ⟨k, e1, e2, e3, e4⟩ := ex_div (x := u) (g := gU u lo) g1 (Nat.gcd_dvd_left _ _)
  unfold arU
  rw [e2]
  refine ⟨by omega, Nat.div_pos g2 g1, ?_⟩
  have := Nat.div_le_self lo (gU u lo)
  unfold arL
  omega
def wpL (al bl : Int) (t : Nat) : Int := al * bl * (t : Int)
def wpU (i : Bool) (bu bl au al : Int) (t bt : Nat) : Int := if i = true then au * bl * (t : Int) + (bu * al - au * bl) * (bt : Int) else au * bl * (t : Int) - (bu * al - au * bl) * (bt : Int)
def wpG (i : Bool) (bu bl au al : Int) (t bt : Nat) : Nat := Nat.gcd (wpU i bu bl au al t bt).natAbs (wpL al bl t).natAbs
def wpX (i : Bool) (bu bl au al : Int) (t bt : Nat) : Int := wpU i bu bl au al t bt / ((wpG i bu bl au al t bt : Nat) : Int)
def wpY (i : Bool) (bu bl au al : Int) (t bt : Nat) : Int := wpL al bl t / ((wpG i bu bl au al t bt : Nat) : Int)
def wpO (i : Bool) (bu bl au al : Int) (t bt : Nat) : Bool := decide (wpX i bu bl au al t bt ≤ 9999 ∧ -9999 ≤ wpX i bu bl au al t bt ∧ wpY i bu bl au al t bt ≤ 9999)
/-- the numbers of a wheel's line -/
def WN (bu bl au al : Int) (t bt : Nat) : Prop := bu.natAbs ≤ 9999 ∧ (1 ≤ bl ∧ bl ≤ 9999) ∧ au.natAbs ≤ 99 ∧ (1 ≤ al ∧ al ≤ 99) ∧ (3 ≤ t ∧ t ≤ 200) ∧ 3 ≤ bt ∧ bt ≤ 200
theorem wp_bd {i : Bool} {bu bl au al : Int} {t bt : Nat} (h : WN bu bl au al t bt) : (wpU i bu bl au al t bt).natAbs < 2 ^ 40 ∧ (1 ≤ wpL al bl t ∧ wpL al bl t < 2 ^ 40) ∧ 0 < wpG i bu bl au al t bt ∧ wpG i bu bl au al t bt < 2 ^ 40 := by
  obtain ⟨h1, h2, h3, h4, h5, h6⟩ := h
  have a1 : (au * bl).natAbs ≤ 99 * 9999 := mul_ab h3 (by omega)
  have a2 : (au * bl * (t : Int)).natAbs ≤ 99 * 9999 * 200 := mul_ab a1 (by omega)
  have a3 : (bu * al).natAbs ≤ 9999 * 99 := mul_ab h1 (by omega)
  have a4 : ((bu * al - au * bl) * (bt : Int)).natAbs ≤ (2 * 99 * 9999) * 200 := mul_ab (by omega) (by omega)
  have b1 : (al * bl).natAbs ≤ 99 * 9999 := mul_ab (by omega) (by omega)
  have b2 : (wpL al bl t).natAbs ≤ 99 * 9999 * 200 := mul_ab b1 (by omega)
  have b3 : 0 < al * bl := Int.mul_pos (by omega) (by omega)
  have b4 : 0 < wpL al bl t := Int.mul_pos b3 (by omega)
  have c1 : (wpU i bu bl au al t bt).natAbs < 2 ^ 40 := by
    unfold wpU
    generalize au * bl * (t : Int) = x at a2 ⊢
    generalize (bu * al - au * bl) * (bt : Int) = y at a4 ⊢
    cases i
    · rw [if_neg (by decide)]; omega
    · rw [if_pos rfl]; omega
  have d1 : 0 < wpG i bu bl au al t bt := Nat.gcd_pos_of_pos_right _ (by omega)
  have d2 : wpG i bu bl au al t bt ≤ (wpL al bl t).natAbs := Nat.gcd_le_right _ (by omega)
  exact ⟨c1, ⟨by omega, by omega⟩, d1, by omega⟩
theorem wp_xy {i : Bool} {bu bl au al : Int} {t bt : Nat} (h : WN bu bl au al t bt) : Int64.ofInt (wpU i bu bl au al t bt) / lN (wpG i bu bl au al t bt) = Int64.ofInt (wpX i bu bl au al t bt) ∧ Int64.ofInt (wpL al bl t) / lN (wpG i bu bl au al t bt) = Int64.ofInt (wpY i bu bl au al t bt) ∧ (wpX i bu bl au al t bt).natAbs < 2 ^ 40 ∧ 1 ≤ wpY i bu bl au al t bt ∧ wpY i bu bl au al t bt < 2 ^ 40 := by
  obtain ⟨h1, ⟨h2, h3⟩, h4, h5⟩ := wp_bd (i := i) h
  have d1 : wpG i bu bl au al t bt ∣ (wpU i bu bl au al t bt).natAbs := Nat.gcd_dvd_left _ _
  have d2 : wpG i bu bl au al t bt ∣ (wpL al bl t).natAbs := Nat.gcd_dvd_right _ _
  obtain ⟨k, e1, e2, e3, e4⟩ := ex_div h4 d1
  obtain ⟨m, f1, f2, f3, f4⟩ := ex_div h4 d2
  refine ⟨q64 (by omega) h4 (by omega) d1, q64 (by omega) h4 (by omega) d2, ?_, ?_, ?_⟩
  · unfold wpX; rw [e2]; omega
  · unfold wpY
    rw [f2]
    by_cases c : 1 ≤ m
    · exact c
    · have : (wpG i bu bl au al t bt : Int) * m ≤ 0 := Int.mul_nonpos_of_nonneg_of_nonpos (by omega) (by omega)
      omega
  · unfold wpY; rw [f2]; omega
theorem wp_ok {i : Bool} {bu bl au al : Int} {t bt : Nat} (h : WN bu bl au al t bt) : wpO i bu bl au al t bt = decide (Int64.ofInt (wpX i bu bl au al t bt) ≤ 9999 ∧ -9999 ≤ Int64.ofInt (wpX i bu bl au al t bt) ∧ Int64.ofInt (wpY i bu bl au al t bt) ≤ 9999) := by
  obtain ⟨_, _, h1, h2, h3⟩ := wp_xy (i := i) h
  unfold wpO
  refine decide_eq_decide.mpr ?_
  rw [i64_le, i64_le, i64_le, o64_i (by omega), o64_i (by omega), show (9999 : Int64).toInt = 9999 by decide +kernel, show (-9999 : Int64).toInt = -9999 by decide +kernel]
section SPINS
variable {X : ab_X} {l : Launch}
theorem c_WL_turnAt (u : Int) (lo : Nat) (w : ab_W) (n : Nat) {x y t i bw bt ht bu bl a0 l0 : Int32} {su sl : Int64} (hx : x = Int32.ofInt u) (hy : y = nI lo) (hu : u.natAbs ≤ 99) (h1 : 1 ≤ lo) (h2 : lo ≤ 99) (h4 : w 4 = oWL t i bw bt ht bu bl a0 l0 su sl) :
    ab_C X l i_WL_turnAt [.ref 4, .int x, .int y] w n 0 0 (ab_q1 none (va_up w 4 (oWL t i bw bt ht bu bl (Int32.ofInt (arU u lo)) (nI (arL u lo)) su sl)) n) := by
  subst hx hy
  obtain ⟨w, rfl⟩ := va_ex h4
  obtain ⟨g1, g2⟩ := gU_pos (u := u) h1
  have e1 : (Int32.ofInt u).toInt64.toInt = u := by rw [Int32.toInt_toInt64, o32_i (by omega)]
  have e2 : (nI lo).toInt64.toInt = (lo : Int) := by rw [Int32.toInt_toInt64, nI_toInt (by omega)]
  refine ab_metV cd_104 om_104 rfl rfl (ab_sound ok_104 [] 80 ?_)
  (refine Exists.intro 0 ?_; refine ⟨0, _, Nat.zero_le _, Nat.zero_le _, c_commonDivisor _ _ (by rw [e1]; omega) (by rw [e2]; omega) _ _, ?_⟩; refine ab_q1_elim ?_)
  rw [e1, e2, Int.natAbs_natCast]
  refine And.intro (fun _ => ?_) (fun h_9 => absurd ((by rw [lN_i]; exact nI_le g1 (by show gU u lo < 2 ^ 31; omega))) h_9)
  rw [lN_i]
  refine And.intro ((nI_ne0 (by show 0 < gU u lo; omega) (by show gU u lo < 2 ^ 31; omega))) ?_
  refine And.intro (fun _ => ?_) (fun h_9 => absurd (nI_le g1 (by show gU u lo < 2 ^ 31; omega)) h_9)
  refine And.intro ((nI_ne0 (by show 0 < gU u lo; omega) (by show gU u lo < 2 ^ 31; omega))) ?_
  refine ⟨rfl, ?_, rfl⟩
  have e3 : Int32.ofInt u / nI (Nat.gcd u.natAbs lo) = Int32.ofInt (arU u lo) := q32 (by omega) g1 (by show gU u lo < _; omega) (Nat.gcd_dvd_left _ _)
  have e4 : nI lo / nI (Nat.gcd u.natAbs lo) = nI (arL u lo) := by
    have q := q32 (x := (lo : Int)) (g := gU u lo) (by omega) g1 (by omega) (Nat.gcd_dvd_right _ _)
    rw [nI_ofInt lo, nI_ofInt (arL u lo)]
    exact q
  rw [va_uu, va_uu, va_uu]
  rw [← e3, ← e4]
  rfl
theorem c_WL_findSpin (i : Bool) (t bt' : Nat) (w : ab_W) (n : Nat) {bw ht bu bl au al : Int32} {su sl : Int64} (hW : WN bu.toInt bl.toInt au.toInt al.toInt t bt') (h4 : w 4 = oWL (nI t) (b01 i) bw (nI bt') ht bu bl au al su sl) :
    ab_C X l i_WL_findSpin [.ref 4] w n 0 0 (ab_q1 (some (.int (b01 (wpO i bu.toInt bl.toInt au.toInt al.toInt t bt')))) (va_up w 4 (oWL (nI t) (b01 i) bw (nI bt') ht bu bl au al (Int64.ofInt (wpX i bu.toInt bl.toInt au.toInt al.toInt t bt')) (Int64.ofInt (wpY i bu.toInt bl.toInt au.toInt al.toInt t bt')))) n) := by
  obtain ⟨w, rfl⟩ := va_ex h4
  rw [va_uu]
  obtain ⟨k1, ⟨k2, k3⟩, k4, k5⟩ := wp_bd (i := i) hW
  obtain ⟨x1, x2, x3, x4, x5⟩ := wp_xy (i := i) hW
  have hok := wp_ok (i := i) hW
  have c1 : al.toInt64 * bl.toInt64 * (nI t).toInt64 = Int64.ofInt (wpL al.toInt bl.toInt t) := by
    rw [i32_64 al, i32_64 bl, i32_64 (nI t), nI_toInt (by have := hW.2.2.2.2.1; omega), ← Int64.ofInt_mul, ← Int64.ofInt_mul]
    rfl
  have c2 : (bu.toInt64 * al.toInt64 - au.toInt64 * bl.toInt64) * (nI bt').toInt64 = Int64.ofInt ((bu.toInt * al.toInt - au.toInt * bl.toInt) * (bt' : Int)) := by
    rw [i32_64 al, i32_64 bl, i32_64 bu, i32_64 au, i32_64 (nI bt'), nI_toInt (by have := hW.2.2.2.2.2; omega), Int64.ofInt_mul, Int64.ofInt_sub, Int64.ofInt_mul, Int64.ofInt_mul]
  have c3 : au.toInt64 * bl.toInt64 * (nI t).toInt64 = Int64.ofInt (au.toInt * bl.toInt * (t : Int)) := by
    rw [i32_64 au, i32_64 bl, i32_64 (nI t), nI_toInt (by have := hW.2.2.2.2.1; omega), Int64.ofInt_mul, Int64.ofInt_mul]
  have at85 : ∀ ro sw : Int64, ab_Ev X l i_WL_findSpin 85 [some (.ref 4), some (.long (Int64.ofInt (wpL al.toInt bl.toInt t))), none, some (.long ro), none, some (.long sw), none, none, none, none, none] [.long (Int64.ofInt (wpU i bu.toInt bl.toInt au.toInt al.toInt t bt'))] (va_up w 4 (oWL (nI t) (b01 i) bw (nI bt') ht bu bl au al su sl)) n 0 0 (ab_q1 (some (.int (b01 (wpO i bu.toInt bl.toInt au.toInt al.toInt t bt')))) (va_up w 4 (oWL (nI t) (b01 i) bw (nI bt') ht bu bl au al (Int64.ofInt (wpX i bu.toInt bl.toInt au.toInt al.toInt t bt')) (Int64.ofInt (wpY i bu.toInt bl.toInt au.toInt al.toInt t bt')))) n) := by
    intro ro sw
    have e1 : (Int64.ofInt (wpU i bu.toInt bl.toInt au.toInt al.toInt t bt')).toInt = wpU i bu.toInt bl.toInt au.toInt al.toInt t bt' := o64_i (by omega)
    have e2 : (Int64.ofInt (wpL al.toInt bl.toInt t)).toInt = wpL al.toInt bl.toInt t := o64_i (by omega)
    have hg : (lN (wpG i bu.toInt bl.toInt au.toInt al.toInt t bt')).toInt = (wpG i bu.toInt bl.toInt au.toInt al.toInt t bt' : Int) := lN_toI (by omega)
    have h1 : (1 : Int64) ≤ lN (wpG i bu.toInt bl.toInt au.toInt al.toInt t bt') := by rw [i64_le, hg]; show (1 : Int) ≤ _; omega
    have hz : ¬ lN (wpG i bu.toInt bl.toInt au.toInt al.toInt t bt') = 0 := fun z => by rw [z] at hg; have : (0 : Int) = _ := hg; omega
    have at135 : ∀ a b c d : Option Value, ab_Ev X l i_WL_findSpin 135 [some (.ref 4), a, none, some (.long ro), none, some (.long sw), none, b, none, c, none] [] (va_up w 4 (oWL (nI t) (b01 i) bw (nI bt') ht bu bl au al (Int64.ofInt (wpX i bu.toInt bl.toInt au.toInt al.toInt t bt')) (Int64.ofInt (wpY i bu.toInt bl.toInt au.toInt al.toInt t bt')))) n 0 0 (ab_q1 (some (.int (b01 (wpO i bu.toInt bl.toInt au.toInt al.toInt t bt')))) (va_up w 4 (oWL (nI t) (b01 i) bw (nI bt') ht bu bl au al (Int64.ofInt (wpX i bu.toInt bl.toInt au.toInt al.toInt t bt')) (Int64.ofInt (wpY i bu.toInt bl.toInt au.toInt al.toInt t bt')))) n) := by
      intro a b c d
      rw [hok]
      have n1 : (lN 9999).toInt = 9999 := lN_toI (by omega)
      have n2 : (9999 : Int64).toInt = 9999 := by decide +kernel
      have n3 : (-9999 : Int64).toInt = -9999 := by decide +kernel
      have n4 : (-lN 9999).toInt = -9999 := by decide +kernel
      refine ab_sound ok_105 [] 80 ?_
      refine And.intro (fun b1 => ?_) (fun b1 => ?_)
      · rw [decide_eq_false (fun z => by have b1 := lg_gt.mp b1; rw [i64_lt] at b1; have z := z.1; rw [i64_le] at z; exact absurd b1 (by omega))]
        exact ⟨rfl, rfl, rfl, rfl⟩
      refine And.intro (fun b2 => ?_) (fun b2 => ?_)
      · rw [decide_eq_false (fun z => by have b2 := lg_lt.mp b2; rw [i64_lt] at b2; have z := z.2.1; rw [i64_le] at z; exact absurd b2 (by omega))]
        exact ⟨rfl, rfl, rfl, rfl⟩
      refine And.intro (fun b3 => ?_) (fun b3 => ?_)
      · rw [decide_eq_false (fun z => by have b3 := lg_gt.mp b3; rw [i64_lt] at b3; have z := z.2.2; rw [i64_le] at z; exact absurd b3 (by omega))]
        exact ⟨rfl, rfl, rfl, rfl⟩
      · have b1 : ¬ lN 9999 < Int64.ofInt (wpX i bu.toInt bl.toInt au.toInt al.toInt t bt') := fun z => b1 (lg_gt.mpr z)
        have b2 : ¬ Int64.ofInt (wpX i bu.toInt bl.toInt au.toInt al.toInt t bt') < -lN 9999 := fun z => b2 (lg_lt.mpr z)
        have b3 : ¬ lN 9999 < Int64.ofInt (wpY i bu.toInt bl.toInt au.toInt al.toInt t bt') := fun z => b3 (lg_gt.mpr z)
        rw [decide_eq_true ⟨by rw [i64_le]; rw [i64_lt] at b1; omega, by rw [i64_le]; rw [i64_lt] at b2; omega, by rw [i64_le]; rw [i64_lt] at b3; omega⟩]
        exact ⟨rfl, rfl, rfl, rfl⟩
    refine ab_sound ok_105 [135] 80 ?_
    (refine Exists.intro 0 ?_; refine ⟨0, _, Nat.zero_le _, Nat.zero_le _, c_commonDivisor _ _ (by rw [e1]; omega) (by rw [e2]; omega) _ _, ?_⟩; refine ab_q1_elim ?_)
    rw [e1, e2]
    refine And.intro (fun _ => ?_) (fun h_9 => absurd ((lg_ge0.mpr h1)) h_9)
    refine And.intro (hz) ?_
    refine And.intro (fun _ => ?_) (fun h_9 => absurd ((lg_ge0.mpr h1)) h_9)
    refine And.intro (hz) ?_
    refine ab_ev_of (at135 _ _ _ none) rfl rfl ?_
    simp only [va_uu]
    rw [← x1, ← x2]
    rfl
  refine ab_metI cd_105 om_105 rfl (ab_sound ok_105 [85] 80 ?_)
  cases i
  · refine And.intro (fun _ => ?_) (fun h_9 => absurd (rfl) h_9)
    refine ab_ev_of (at85 (Int64.ofInt ((bu.toInt * al.toInt - au.toInt * bl.toInt) * (bt' : Int))) (Int64.ofInt (au.toInt * bl.toInt * (t : Int)))) ?_ ?_ rfl
    · rw [← c1, ← c2, ← c3]; rfl
    · unfold wpU
      rw [if_neg (by decide), Int64.ofInt_sub, ← c2, ← c3]
  · refine And.intro (fun h_9 => absurd h_9 ((by decide))) (fun _ => ?_)
    refine ab_ev_of (at85 (Int64.ofInt ((bu.toInt * al.toInt - au.toInt * bl.toInt) * (bt' : Int))) (Int64.ofInt (au.toInt * bl.toInt * (t : Int)))) ?_ ?_ rfl
    · rw [← c1, ← c2, ← c3]; rfl
    · unfold wpU
      rw [if_pos rfl, Int64.ofInt_add, ← c2, ← c3]
end SPINS
