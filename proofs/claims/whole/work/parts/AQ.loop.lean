/-! the law's loop, and the law from its start -/
section LAWL
variable {X : ab_X} {l : Launch}
theorem lw_sub6 {sl : Nat} (hs : sl ≤ 3072) : (nI sl - nI 6).toInt = (sl : Int) - 6 := by
  rw [Int32.toInt_sub, nI_toInt (by omega), nI_toInt (by omega), Int.bmod_eq_of_le (by omega) (by omega)]
  rfl
set_option maxRecDepth 100000 in
theorem lw_exit {w : ab_W} {n i bc bs : Nat} {a5 a6 a7 : Option Value} (hs : X.2.2.2.1 ≤ 3072) (hi : i ≤ X.2.2.2.1) (h : X.2.2.2.1 < i + 6) : ab_Ev X l 259 23 (LL i a5 a6 a7) [] w n bc bs LQ := by
  refine ab_sound ok_259 [] 30 ?_
  refine And.intro (fun _ => ?_) (fun h_9 => absurd ?_ h_9)
  · exact ⟨rfl, rfl⟩
  · rw [i32_lt, nI_toInt (by omega), show (nI X.2.2.2.1 - nI 6).toInt = (X.2.2.2.1 : Int) - 6 from ?_]
    · omega
    · exact lw_sub6 hs
set_option maxRecDepth 100000 in
theorem lw_loop (htr : l.stackTraces = false) (hs : X.2.2.2.1 ≤ 3072) : ∀ (m i : Nat), i ≤ X.2.2.2.1 → X.2.2.2.1 < i + 6 * m + 6 → ∀ (w : ab_W) (n : Nat) (a5 a6 a7 : Option Value), IV w n → ab_Ev X l 259 23 (LL i a5 a6 a7) [] w n m (3480 * m) LQ
  | 0, i, h1, h2, w, n, a5, a6, a7, h => lw_exit hs h1 (by omega)
  | m + 1, i, h1, h2, w, n, a5, a6, a7, h => by
    by_cases h6 : i + 6 ≤ X.2.2.2.1
    · have nx : NX X l i m (3480 * m) := by
        intro w n a5 a6 a7 h
        have ih := lw_loop htr hs m (i + 6) h6 (by omega) w n a5 a6 a7 h
        refine ab_sound ok_259 [23] 10 ?_
        refine ab_ev_of ih ?_ rfl rfl
        rw [nI_add]
        rfl
      refine lw_more (bc := m + 1) (bs := 3480 * m + 3480) ?_ (Nat.le_refl _) (by omega)
      refine ab_sound ok_259 [176, 249, 274, 287, 300, 368, 394, 419, 498, 524, 573, 598, 623, 648, 685, 764, 801, 868, 905, 942, 991, 1028, 1053, 1091, 1116, 1129, 1184, 1209, 1246, 1314, 1339] 30 ?_
      refine And.intro (fun h_9 => absurd h_9 ?_) (fun _ => ?_)
      · rw [i32_lt, nI_toInt (by omega), lw_sub6 hs]
        omega
      refine And.intro (vp_in_nI (by omega) (by omega)) ?_
      refine And.intro (fun _ => cs_176 htr h6 hs w n a5 a6 a7 m (3480 * m) h nx) (fun _ => ?_)
      refine And.intro (fun _ => cs_249 htr h6 hs w n a5 a6 a7 m (3480 * m) h nx) (fun _ => ?_)
      refine And.intro (fun _ => cs_274 htr h6 hs w n a5 a6 a7 m (3480 * m) h nx) (fun _ => ?_)
      refine And.intro (fun _ => cs_287 htr h6 hs w n a5 a6 a7 m (3480 * m) h nx) (fun _ => ?_)
      refine And.intro (fun _ => cs_300 htr h6 hs w n a5 a6 a7 m (3480 * m) h nx) (fun _ => ?_)
      refine And.intro (fun _ => cs_368 htr h6 hs w n a5 a6 a7 m (3480 * m) h nx) (fun _ => ?_)
      refine And.intro (fun _ => cs_394 htr h6 hs w n a5 a6 a7 m (3480 * m) h nx) (fun _ => ?_)
      refine And.intro (fun _ => cs_419 htr h6 hs w n a5 a6 a7 m (3480 * m) h nx) (fun _ => ?_)
      refine And.intro (fun _ => cs_498 htr h6 hs w n a5 a6 a7 m (3480 * m) h nx) (fun _ => ?_)
      refine And.intro (fun _ => cs_524 htr h6 hs w n a5 a6 a7 m (3480 * m) h nx) (fun _ => ?_)
      refine And.intro (fun _ => cs_573 htr h6 hs w n a5 a6 a7 m (3480 * m) h nx) (fun _ => ?_)
      refine And.intro (fun _ => cs_598 htr h6 hs w n a5 a6 a7 m (3480 * m) h nx) (fun _ => ?_)
      refine And.intro (fun _ => cs_623 htr h6 hs w n a5 a6 a7 m (3480 * m) h nx) (fun _ => ?_)
      refine And.intro (fun _ => cs_648 htr h6 hs w n a5 a6 a7 m (3480 * m) h nx) (fun _ => ?_)
      refine And.intro (fun _ => cs_685 htr h6 hs w n a5 a6 a7 m (3480 * m) h nx) (fun _ => ?_)
      refine And.intro (fun _ => cs_764 htr h6 hs w n a5 a6 a7 m (3480 * m) h nx) (fun _ => ?_)
      refine And.intro (fun _ => cs_801 htr h6 hs w n a5 a6 a7 m (3480 * m) h nx) (fun _ => ?_)
      refine And.intro (fun _ => cs_868 htr h6 hs w n a5 a6 a7 m (3480 * m) h nx) (fun _ => ?_)
      refine And.intro (fun _ => cs_905 htr h6 hs w n a5 a6 a7 m (3480 * m) h nx) (fun _ => ?_)
      refine And.intro (fun _ => cs_942 htr h6 hs w n a5 a6 a7 m (3480 * m) h nx) (fun _ => ?_)
      refine And.intro (fun _ => cs_991 htr h6 hs w n a5 a6 a7 m (3480 * m) h nx) (fun _ => ?_)
      refine And.intro (fun _ => cs_1028 htr h6 hs w n a5 a6 a7 m (3480 * m) h nx) (fun _ => ?_)
      refine And.intro (fun _ => cs_1053 htr h6 hs w n a5 a6 a7 m (3480 * m) h nx) (fun _ => ?_)
      refine And.intro (fun _ => cs_1091 htr h6 hs w n a5 a6 a7 m (3480 * m) h nx) (fun _ => ?_)
      refine And.intro (fun _ => cs_1116 htr h6 hs w n a5 a6 a7 m (3480 * m) h nx) (fun _ => ?_)
      refine And.intro (fun _ => cs_1129 htr h6 hs w n a5 a6 a7 m (3480 * m) h nx) (fun _ => ?_)
      refine And.intro (fun _ => cs_1184 htr h6 hs w n a5 a6 a7 m (3480 * m) h nx) (fun _ => ?_)
      refine And.intro (fun _ => cs_1209 htr h6 hs w n a5 a6 a7 m (3480 * m) h nx) (fun _ => ?_)
      refine And.intro (fun _ => cs_1246 htr h6 hs w n a5 a6 a7 m (3480 * m) h nx) (fun _ => ?_)
      refine And.intro (fun _ => cs_1314 htr h6 hs w n a5 a6 a7 m (3480 * m) h nx) (fun _ => ?_)
      exact lw_more (nx w n _ _ _ h) (by omega) (by omega)
    · exact lw_exit hs h1 (by omega)
set_option maxRecDepth 100000 in
theorem lw_begin (htr : l.stackTraces = false) (hs : X.2.2.2.1 ≤ 3072) (w : ab_W) : ab_Ev X l 259 0 (ab_en (ab_mx 259) [.retAddr 1000]) [] w 0 601024 7293034 LQ := by
  refine ab_sound ok_259 [23] 40 ?_
  refine And.intro ⟨by omega, by omega⟩ ?_
  refine Exists.intro 89 ?_
  refine ⟨16125, _, by omega, by omega, c_WP_init _ rfl, ?_⟩
  rintro _ w1 _ ⟨rfl, rfl, hW⟩
  refine And.intro ⟨by omega, by omega⟩ ?_
  refine Exists.intro 43 ?_
  refine ⟨41254, _, by omega, by omega, c_Mod_init _ rfl, ?_⟩
  rintro _ w2 _ ⟨rfl, rfl, f, hM⟩
  refine And.intro ⟨by decide +kernel, by decide +kernel, by omega, by omega⟩ ?_
  have f1 : Fr (fun k => 90 ≤ k) w1 w2 := (Fr.refl.up (k := 90) (Nat.le_refl _)).trans f
  have hI : IV (va_up w2 134 (ab_arr0 1 1)) 135 := iv0 hW hM (f1.up (show 90 ≤ 134 by omega)) (Fr.refl.up (Nat.le_refl _)) va_us
  exact lw_more (lw_loop htr hs 512 0 (Nat.zero_le _) (by omega) _ _ none none none hI) (by omega) (by omega)
end LAWL
