/-! the model's spins and numbers -/
section MSPINS
variable {X : ab_X} {l : Launch}
theorem c_Mod_spins (i : Bool) (v t bt' : Nat) (w : ab_W) (n : Nat) {s : Nat → Int32} {wd tn : Int64} {x : Int32} {bu bl au al : Int32} {yo yt : Int64} {f3 f4 f5 f6 : Nat → Int64} (hx : x = nI v) (hv : v < 24) (hyo : yo = (nI bt').toInt64) (hyt : yt = Int64.ofInt (if i = true then (t : Int) else -(t : Int))) (hW : WN bu.toInt bl.toInt au.toInt al.toInt t bt') (h90 : w 90 = oMod s wd tn) (h103 : w 103 = aJ 24 f3) (h104 : w 104 = aJ 24 f4) (h105 : w 105 = aJ 24 f5) (h106 : w 106 = aJ 24 f6) (e3 : f3 v = au.toInt64) (e4 : f4 v = al.toInt64) :
    ab_C X l i_Mod_spins [.ref 90, .int x, .long bu.toInt64, .long bl.toInt64, .long yo, .long yt] w n 0 0 (ab_q1 (some (.int (b01 (wpO i bu.toInt bl.toInt au.toInt al.toInt t bt')))) (va_up (va_up w 105 (aJ 24 (vp_updL f5 v (Int64.ofInt (wpX i bu.toInt bl.toInt au.toInt al.toInt t bt'))))) 106 (aJ 24 (vp_updL f6 v (Int64.ofInt (wpY i bu.toInt bl.toInt au.toInt al.toInt t bt'))))) n) := by
  subst hx hyo
  obtain ⟨k1, ⟨k2, k3⟩, k4, k5⟩ := wp_bd (i := i) hW
  obtain ⟨x1, x2, x3, x4, x5⟩ := wp_xy (i := i) hW
  have hok := wp_ok (i := i) hW
  have bto : (nI bt').toInt64 = Int64.ofInt (bt' : Int) := by rw [i32_64, nI_toInt (by have := hW.2.2.2.2.2; omega)]
  have cU : au.toInt64 * bl.toInt64 * yt + (bu.toInt64 * al.toInt64 - au.toInt64 * bl.toInt64) * (nI bt').toInt64 = Int64.ofInt (if i = true then wpU i bu.toInt bl.toInt au.toInt al.toInt t bt' else -wpU i bu.toInt bl.toInt au.toInt al.toInt t bt') := by
    rw [hyt, bto, i32_64 al, i32_64 bl, i32_64 bu, i32_64 au, ← Int64.ofInt_mul, ← Int64.ofInt_mul, ← Int64.ofInt_mul, ← Int64.ofInt_sub, ← Int64.ofInt_mul, ← Int64.ofInt_add]
    congr 1
    unfold wpU
    cases i
    · rw [if_neg (by decide), if_neg (by decide), if_neg (by decide), Int.mul_neg]
      omega
    · rw [if_pos rfl, if_pos rfl, if_pos rfl]
  have cL : al.toInt64 * bl.toInt64 * yt = Int64.ofInt (if i = true then wpL al.toInt bl.toInt t else -wpL al.toInt bl.toInt t) := by
    rw [hyt, i32_64 al, i32_64 bl, ← Int64.ofInt_mul, ← Int64.ofInt_mul]
    congr 1
    unfold wpL
    cases i
    · rw [if_neg (by decide), if_neg (by decide), Int.mul_neg]
    · rw [if_pos rfl, if_pos rfl]
  have e1 : (Int64.ofInt (wpU i bu.toInt bl.toInt au.toInt al.toInt t bt')).toInt = wpU i bu.toInt bl.toInt au.toInt al.toInt t bt' := o64_i (by omega)
  have e2 : (Int64.ofInt (wpL al.toInt bl.toInt t)).toInt = wpL al.toInt bl.toInt t := o64_i (by omega)
  have hg : (lN (wpG i bu.toInt bl.toInt au.toInt al.toInt t bt')).toInt = (wpG i bu.toInt bl.toInt au.toInt al.toInt t bt' : Int) := lN_toI (by omega)
  have hz : ¬ lN (wpG i bu.toInt bl.toInt au.toInt al.toInt t bt') = 0 := fun z => by rw [z] at hg; have : (0 : Int) = _ := hg; omega
  obtain ⟨w, rfl⟩ : ∃ w0, w = va_up (va_up (va_up (va_up (va_up w0 106 (aJ 24 f6)) 105 (aJ 24 f5)) 104 (aJ 24 f4)) 103 (aJ 24 f3)) 90 (oMod s wd tn) := ⟨w, by rw [← va_self h106, ← va_self h105, ← va_self h104, ← va_self h103, ← va_self h90]⟩
  generalize hU : wpU i bu.toInt bl.toInt au.toInt al.toInt t bt' = U at *
  generalize hLL : wpL al.toInt bl.toInt t = Lw at *
  have at67 : ab_Ev X l i_Mod_spins 67 [some (.ref 90), some (.int (nI v)), some (.long bu.toInt64), none, some (.long bl.toInt64), none, some (.long (nI bt').toInt64), none, some (.long yt), none, some (.long (Int64.ofInt U)), none, some (.long (Int64.ofInt Lw)), none, none, none] [] (va_up (va_up (va_up (va_up (va_up w 106 (aJ 24 f6)) 105 (aJ 24 f5)) 104 (aJ 24 f4)) 103 (aJ 24 f3)) 90 (oMod s wd tn)) n 0 0 (ab_q1 (some (.int (b01 (wpO i bu.toInt bl.toInt au.toInt al.toInt t bt')))) (va_up (va_up (va_up (va_up (va_up (va_up (va_up w 106 (aJ 24 f6)) 105 (aJ 24 f5)) 104 (aJ 24 f4)) 103 (aJ 24 f3)) 90 (oMod s wd tn)) 105 (aJ 24 (vp_updL f5 v (Int64.ofInt (wpX i bu.toInt bl.toInt au.toInt al.toInt t bt'))))) 106 (aJ 24 (vp_updL f6 v (Int64.ofInt (wpY i bu.toInt bl.toInt au.toInt al.toInt t bt'))))) n) := by
    have at98 : ∀ a b : Option Value, ab_Ev X l i_Mod_spins 98 [some (.ref 90), some (.int (nI v)), some (.long bu.toInt64), none, some (.long bl.toInt64), none, some (.long (nI bt').toInt64), none, some (.long yt), none, some (.long (Int64.ofInt U)), none, some (.long (Int64.ofInt Lw)), none, a, none] [] (va_up (va_up (va_up (va_up (va_up (va_up (va_up w 106 (aJ 24 f6)) 105 (aJ 24 f5)) 104 (aJ 24 f4)) 103 (aJ 24 f3)) 90 (oMod s wd tn)) 105 (aJ 24 (vp_updL f5 v (Int64.ofInt (wpX i bu.toInt bl.toInt au.toInt al.toInt t bt'))))) 106 (aJ 24 (vp_updL f6 v (Int64.ofInt (wpY i bu.toInt bl.toInt au.toInt al.toInt t bt'))))) n 0 0 (ab_q1 (some (.int (b01 (wpO i bu.toInt bl.toInt au.toInt al.toInt t bt')))) (va_up (va_up (va_up (va_up (va_up (va_up (va_up w 106 (aJ 24 f6)) 105 (aJ 24 f5)) 104 (aJ 24 f4)) 103 (aJ 24 f3)) 90 (oMod s wd tn)) 105 (aJ 24 (vp_updL f5 v (Int64.ofInt (wpX i bu.toInt bl.toInt au.toInt al.toInt t bt'))))) 106 (aJ 24 (vp_updL f6 v (Int64.ofInt (wpY i bu.toInt bl.toInt au.toInt al.toInt t bt'))))) n) := by
      intro a b
      rw [hok]
      generalize Int64.ofInt (wpX i bu.toInt bl.toInt au.toInt al.toInt t bt') = A at *
      generalize Int64.ofInt (wpY i bu.toInt bl.toInt au.toInt al.toInt t bt') = B at *
      have n1 : (lN 9999).toInt = 9999 := lN_toI (by omega)
      have n2 : (9999 : Int64).toInt = 9999 := by decide +kernel
      have n3 : (-9999 : Int64).toInt = -9999 := by decide +kernel
      have n4 : (-lN 9999).toInt = -9999 := by decide +kernel
      refine ab_sound ok_180 [] 80 ?_
      refine And.intro (vp_in_nI hv (by omega)) ?_
      rw [nI_clamp (by omega), pk_uLs]
      refine And.intro (fun b3 => ?_) (fun b3 => ?_)
      · rw [decide_eq_false (fun z => by have b3 := lg_gt.mp b3; rw [i64_lt] at b3; have z := z.2.2; rw [i64_le] at z; exact absurd b3 (by omega))]
        exact ⟨rfl, rfl, rfl, rfl⟩
      refine And.intro (vp_in_nI hv (by omega)) ?_
      rw [nI_clamp (by omega), pk_uLs]
      refine And.intro (fun b1 => ?_) (fun b1 => ?_)
      · rw [decide_eq_false (fun z => by have b1 := lg_gt.mp b1; rw [i64_lt] at b1; have z := z.1; rw [i64_le] at z; exact absurd b1 (by omega))]
        exact ⟨rfl, rfl, rfl, rfl⟩
      refine And.intro (vp_in_nI hv (by omega)) ?_
      rw [nI_clamp (by omega), pk_uLs]
      refine And.intro (fun b2 => ?_) (fun b2 => ?_)
      · rw [decide_eq_false (fun z => by have b2 := lg_lt.mp b2; rw [i64_lt] at b2; have z := z.2.1; rw [i64_le] at z; exact absurd b2 (by omega))]
        exact ⟨rfl, rfl, rfl, rfl⟩
      · have b1 : ¬ lN 9999 < A := fun z => b1 (lg_gt.mpr z)
        have b2 : ¬ A < -lN 9999 := fun z => b2 (lg_lt.mpr z)
        have b3 : ¬ lN 9999 < B := fun z => b3 (lg_gt.mpr z)
        rw [decide_eq_true ⟨by rw [i64_le]; rw [i64_lt] at b1; omega, by rw [i64_le]; rw [i64_lt] at b2; omega, by rw [i64_le]; rw [i64_lt] at b3; omega⟩]
        exact ⟨rfl, rfl, rfl, rfl⟩
    refine ab_sound ok_180 [98] 80 ?_
    (refine Exists.intro 0 ?_; refine ⟨0, _, Nat.zero_le _, Nat.zero_le _, c_Mod_divisor _ _ (by rw [e1]; omega) (by rw [e2]; omega) _ _, ?_⟩; refine ab_q1_elim ?_)
    rw [e1, e2]
    have hG : Nat.gcd U.natAbs Lw.natAbs = wpG i bu.toInt bl.toInt au.toInt al.toInt t bt' := by unfold wpG; rw [hU, hLL]
    rw [hG]
    refine And.intro (hz) ?_
    refine And.intro (vp_in_nI hv (by omega)) ?_
    rw [nI_clamp (by omega)]
    refine And.intro (hz) ?_
    refine And.intro (vp_in_nI hv (by omega)) ?_
    rw [nI_clamp (by omega), x1, x2]
    exact ab_ev_of (at98 _ none) rfl rfl rfl
  have at50 : ∀ a b : Int64, a = Int64.ofInt (if i = true then U else -U) → b = Int64.ofInt (if i = true then Lw else -Lw) → ab_Ev X l i_Mod_spins 50 [some (.ref 90), some (.int (nI v)), some (.long bu.toInt64), none, some (.long bl.toInt64), none, some (.long (nI bt').toInt64), none, some (.long yt), none, some (.long a), none, some (.long b), none, none, none] [] (va_up (va_up (va_up (va_up (va_up w 106 (aJ 24 f6)) 105 (aJ 24 f5)) 104 (aJ 24 f4)) 103 (aJ 24 f3)) 90 (oMod s wd tn)) n 0 0 (ab_q1 (some (.int (b01 (wpO i bu.toInt bl.toInt au.toInt al.toInt t bt')))) (va_up (va_up (va_up (va_up (va_up (va_up (va_up w 106 (aJ 24 f6)) 105 (aJ 24 f5)) 104 (aJ 24 f4)) 103 (aJ 24 f3)) 90 (oMod s wd tn)) 105 (aJ 24 (vp_updL f5 v (Int64.ofInt (wpX i bu.toInt bl.toInt au.toInt al.toInt t bt'))))) 106 (aJ 24 (vp_updL f6 v (Int64.ofInt (wpY i bu.toInt bl.toInt au.toInt al.toInt t bt'))))) n) := by
    intro a b ha hb
    clear hok x1 x2 cU cL
    refine ab_sound ok_180 [67] 80 ?_
    cases i
    · rw [if_neg (by decide)] at ha hb
      refine And.intro (fun h_9 => absurd h_9 ((fun z => by have z := lg_ge0.mp z; rw [hb, i64_le, o64_i (by omega)] at z; have z : (0 : Int) ≤ _ := z; omega))) (fun _ => ?_)
      have g1 : -a = Int64.ofInt U := by rw [ha, ← Int64.ofInt_neg, Int.neg_neg]
      have g2 : -b = Int64.ofInt Lw := by rw [hb, ← Int64.ofInt_neg, Int.neg_neg]
      rw [← g1, ← g2] at at67
      exact at67
    · rw [if_pos rfl] at ha hb
      refine And.intro (fun _ => ?_) (fun h_9 => absurd ((by refine lg_ge0.mpr ?_; rw [hb, i64_le, o64_i (by omega)]; show (0 : Int) ≤ _; omega)) h_9)
      rw [← ha, ← hb] at at67
      exact at67
  refine ab_metI cd_180 om_180 rfl (ab_sound ok_180 [50] 80 ?_)
  refine And.intro (vp_in_nI hv (by omega)) ?_
  rw [nI_clamp (by omega), e3]
  refine And.intro (vp_in_nI hv (by omega)) ?_
  rw [nI_clamp (by omega), e4]
  refine And.intro (vp_in_nI hv (by omega)) ?_
  rw [nI_clamp (by omega), e3]
  refine And.intro (vp_in_nI hv (by omega)) ?_
  rw [nI_clamp (by omega), e4]
  exact at50 _ _ cU cL
end MSPINS
