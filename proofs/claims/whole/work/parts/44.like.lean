section MLIKE
variable {X : ab_X} {l : Launch}
theorem c_Mod_gatherProduct (x z mr : Int32) (tm : Int64) (N b c : Nat) (w : ab_W) (n : Nat) {s : Nat → Int32} {wd tn : Int64} {raw g : Nat → Int64} (mir : Bool) (hmr : mr = b01 mir) (hx : x = nI b) (hz : z = nI c) (hN : N ≤ 60) (hN3 : 3 ≤ N) (hb : b + 60 ≤ 28800) (hc : c + 60 ≤ 28800) (hs : s 38 = nI N) (hs2 : s 39 = nI (phi N)) (h0 : w 90 = oMod s wd tn) (h2 : w 114 = aJ 60 raw) (h3 : w 116 = aJ 28800 g) : ab_C X l i_Mod_gatherProduct [.ref 90, .ref 116, .int x, .int mr, .ref 116, .int z, .long tm] w n 0 0 (ab_q1 none (va_up w 114 (aJ 60 (gpF (fun i j => if mir = true then (j + N - i) % N else (i + j) % N) (fun i j => tm * g (b + i) * g (c + j)) (phi N) (phi N) raw))) n) := by
  subst hx hz hmr
  obtain ⟨w, rfl⟩ := va_ex3 h3 h2 h0
  have hp := phi_le N hN
  have hlt := phi_lt N hN hN3
  refine ab_metV cd_220 om_220 rfl rfl (ab_sound ok_220 [3] 50 ?_)
  generalize hix : (fun i j => if mir = true then (j + N - i) % N else (i + j) % N) = ix
  generalize hvv : (fun i j => tm * g (b + i) * g (c + j)) = vv
  generalize hQ : ab_q1 none (va_up (va_up (va_up (va_up w 90 (oMod s wd tn)) 114 (aJ 60 raw)) 116 (aJ 28800 g)) 114 (aJ 60 (gpF ix vv (phi N) (phi N) raw))) n = Q
  have outer : ∀ i, i ≤ phi N → ∀ l9 : Option Value, ab_Ev X l i_Mod_gatherProduct 3 [some (.ref 90), some (.ref 116), some (.int (nI b)), some (.int (b01 mir)), some (.ref 116), some (.int (nI c)), some (.long tm), none, some (.int (nI i)), l9] [] (va_up (va_up (va_up w 90 (oMod s wd tn)) 114 (aJ 60 (gpF ix vv (phi N) i raw))) 116 (aJ 28800 g)) n 0 0 Q := by
    refine ab_up (phi N) ?_ (fun i hi ih => ?_)
    · intro l9
      refine ab_sound ok_220 [3] 50 ?_
      refine And.intro (fun _ => ?_) (fun h_9 => absurd ((by rw [hs2]; exact nI_le (Nat.le_refl _) (by omega))) h_9)
      subst hQ
      exact ⟨rfl, (by first | rfl | (simp only [va_uu, va_uc, Nat.reduceLT]; done) | (simp only [va_uu, va_uc, Nat.reduceLT]; rfl)), rfl⟩
    · intro l9
      generalize hF : gpF ix vv (phi N) i raw = F
      have fin : ∀ (l9 : Option Value) (G : Nat → Int64), G = gaF (ix i) (vv i) (phi N) F → ab_Ev X l i_Mod_gatherProduct 90 [some (.ref 90), some (.ref 116), some (.int (nI b)), some (.int (b01 mir)), some (.ref 116), some (.int (nI c)), some (.long tm), none, some (.int (nI i)), l9] [] (va_up (va_up (va_up w 90 (oMod s wd tn)) 114 (aJ 60 G)) 116 (aJ 28800 g)) n 0 0 Q := by
        intro l9 G hG
        refine ab_sound ok_220 [3] 50 ?_
        refine ab_ev_of (ih l9) (by rw [nI_s i]; rfl) rfl ?_
        rw [hG, ← hF]
        rfl
      refine ab_sound ok_220 [29, 90] 50 ?_
      refine And.intro (fun h_9 => absurd h_9 ((by rw [hs2]; exact nI_ge hi (by omega)))) (fun _ => ?_)
      refine And.intro ((by rw [nI_add]; exact vp_in_nI (by omega) (by omega))) ?_
      rw [nI_add, nI_clamp (by omega)]
      by_cases hz : g (b + i) = 0
      · refine And.intro (fun h9 => absurd (lz_eq.mpr hz) h9) (fun _ => ?_)
        refine fin l9 F ?_
        rw [gaF_0 (phi N) F (fun j _ => by rw [← hvv]; show tm * g (b + i) * g (c + j) = 0; rw [hz]; simp)]
      · refine And.intro (fun _ => ?_) (fun h9 => absurd (lz_eq.mp h9) hz)
        have inn : ∀ j, j ≤ phi N → ab_Ev X l i_Mod_gatherProduct 29 [some (.ref 90), some (.ref 116), some (.int (nI b)), some (.int (b01 mir)), some (.ref 116), some (.int (nI c)), some (.long tm), none, some (.int (nI i)), some (.int (nI j))] [] (va_up (va_up (va_up w 90 (oMod s wd tn)) 114 (aJ 60 (gaF (ix i) (vv i) j F))) 116 (aJ 28800 g)) n 0 0 Q := by
          refine ab_up (phi N) ?_ (fun j hj ih2 => ?_)
          · refine ab_sound ok_220 [29, 90] 50 ?_
            refine And.intro (fun _ => ?_) (fun h_9 => absurd ((by rw [hs2]; exact nI_le (Nat.le_refl _) (by omega))) h_9)
            exact fin _ _ rfl
          · refine ab_sound ok_220 [29, 90] 90 ?_
            refine And.intro (fun h_9 => absurd h_9 ((by rw [hs2]; exact nI_ge hj (by omega)))) (fun _ => ?_)
            have hv : ix i j < N := by
              rw [← hix]
              show (if mir = true then (j + N - i) % N else (i + j) % N) < N
              split <;> exact Nat.mod_lt _ (by omega)
            have hend : va_up (va_up (va_up (va_up w 90 (oMod s wd tn)) 114 (aJ 60 (gaF (ix i) (vv i) j F))) 116 (aJ 28800 g)) 114 (aJ 60 (vp_updL (gaF (ix i) (vv i) j F) (ix i j) (gaF (ix i) (vv i) j F (ix i j) + tm * g (b + i) * g (c + j)))) = va_up (va_up (va_up w 90 (oMod s wd tn)) 114 (aJ 60 (gaF (ix i) (vv i) (j + 1) F))) 116 (aJ 28800 g) := by
              have e : gaF (ix i) (vv i) (j + 1) F = vp_updL (gaF (ix i) (vv i) j F) (ix i j) (gaF (ix i) (vv i) j F (ix i j) + tm * g (b + i) * g (c + j)) := by rw [← hvv]; rfl
              rw [e]
              exact (by first | rfl | (simp only [va_uu, va_uc, Nat.reduceLT]; done) | (simp only [va_uu, va_uc, Nat.reduceLT]; rfl))
            rcases (show mir = false ∨ mir = true by cases mir <;> simp) with hm | hm
            · refine And.intro (fun _ => ?_) (fun h9 => absurd (by rw [hm]; rfl) h9)
              have e : md (nI i + nI j).toInt64.toInt N = ix i j := by
                rw [← hix, nI_add, nI_l (by omega), lN_toInt (by omega), md_nat]
                show _ = if mir = true then _ else _
                rw [if_neg (by rw [hm]; decide)]
              (refine Exists.intro 0 ?_; refine ⟨0, _, Nat.zero_le _, Nat.zero_le _, c_Mod_by _ N (by omega) (by omega) _ _ rfl hs, ?_⟩; rintro _ _ _ ⟨rfl, rfl, rfl⟩)
              rw [e]
              refine And.intro (vp_in_nI (by omega) (by omega)) ?_
              refine And.intro ((by rw [nI_add]; exact vp_in_nI (by omega) (by omega))) ?_
              refine And.intro ((by rw [nI_add]; exact vp_in_nI (by omega) (by omega))) ?_
              refine And.intro (vp_in_nI (by omega) (by omega)) ?_
              refine ab_ev_of ih2 (by rw [nI_s j]; rfl) rfl ?_
              rw [nI_add, nI_add, nI_clamp (by omega), nI_clamp (by omega), nI_clamp (by omega)]
              exact hend
            · refine And.intro (fun h9 => absurd h9 (by rw [hm]; decide)) (fun _ => ?_)
              have e : md (-nI i + nI j).toInt64.toInt N = ix i j := by
                rw [Int32.add_comm, ← Int32.sub_eq_add_neg, Int32.toInt_toInt64, pk_sub_toInt (by omega) (by omega), ← hix]
                show md _ N = if mir = true then _ else _
                rw [if_pos hm]
                unfold md
                have e2 : ((j : Int) - (i : Int)) % (N : Int) = (((j + N - i : Nat)) : Int) % (N : Int) := by
                  rw [show (((j + N - i : Nat)) : Int) = ((j : Int) - (i : Int)) + (N : Int) by omega, Int.add_emod_right]
                rw [e2]
                exact md_nat (j + N - i)
              (refine Exists.intro 0 ?_; refine ⟨0, _, Nat.zero_le _, Nat.zero_le _, c_Mod_by _ N (by omega) (by omega) _ _ rfl hs, ?_⟩; rintro _ _ _ ⟨rfl, rfl, rfl⟩)
              rw [e]
              refine And.intro (vp_in_nI (by omega) (by omega)) ?_
              refine And.intro ((by rw [nI_add]; exact vp_in_nI (by omega) (by omega))) ?_
              refine And.intro ((by rw [nI_add]; exact vp_in_nI (by omega) (by omega))) ?_
              refine And.intro (vp_in_nI (by omega) (by omega)) ?_
              refine ab_ev_of ih2 (by rw [nI_s j]; rfl) rfl ?_
              rw [nI_add, nI_add, nI_clamp (by omega), nI_clamp (by omega), nI_clamp (by omega)]
              exact hend
        exact ab_ev_of (inn 0 (by omega)) rfl rfl rfl
  exact ab_ev_of (outer 0 (by omega) none) rfl rfl rfl
theorem c_Mod_isNought_at (p b L : Nat) (x : Int32) (w : ab_W) (n : Nat) {s : Nat → Int32} {wd tn : Int64} {g : Nat → Int64} (hx : x = nI b) (hp : p ≤ 58) (hb : b + p ≤ L) (hL : L ≤ 30000) (hs2 : s 39 = nI p) (h0 : w 90 = oMod s wd tn) (h3 : w 118 = aJ L g) : ab_C X l i_Mod_isNought [.ref 90, .ref 118, .int x] w n 0 0 (ab_q1 (some (.int (b01 (lkB p (fun i => g (b + i)) (fun _ => 0))))) w n) := by
  subst hx
  obtain ⟨w, rfl⟩ := va_ex2 h3 h0
  refine ab_metI cd_232 om_232 rfl (ab_sound ok_232 [2] 50 ?_)
  have loop : ∀ i, i ≤ p → (∀ m, m < i → g (b + m) = 0) → ab_Ev X l i_Mod_isNought 2 [some (.ref 90), some (.ref 118), some (.int (nI b)), some (.int (nI i))] [] (va_up (va_up w 90 (oMod s wd tn)) 118 (aJ L g)) n 0 0 (ab_q1 (some (.int (b01 (lkB p (fun i => g (b + i)) (fun _ => 0))))) (va_up (va_up w 90 (oMod s wd tn)) 118 (aJ L g)) n) := by
    refine ab_up p ?_ (fun i hi ih => ?_)
    · intro hm
      refine ab_sound ok_232 [2] 50 ?_
      refine And.intro (fun _ => ?_) (fun h_9 => absurd ((by rw [hs2]; exact nI_le (Nat.le_refl _) (by omega))) h_9)
      have e : lkB p (fun i => g (b + i)) (fun _ => 0) = true := lkB_iff.mpr hm
      rw [e]
      exact ⟨rfl, rfl, rfl, rfl⟩
    · intro hm
      refine ab_sound ok_232 [2] 50 ?_
      refine And.intro (fun h_9 => absurd h_9 ((by rw [hs2]; exact nI_ge hi (by omega)))) (fun _ => ?_)
      refine And.intro ((by rw [nI_add]; exact vp_in_nI (by omega) (by omega))) ?_
      rw [nI_add, nI_clamp (by omega)]
      refine And.intro (fun hc => ?_) (fun hc => ?_)
      · rw [lz_eq] at hc
        refine ab_ev_of (ih (fun m hm2 => ?_)) (by rw [nI_s i]; rfl) rfl rfl
        by_cases e : m = i
        · rw [e]; exact hc
        · exact hm m (by omega)
      · rw [lz_eq] at hc
        have e : lkB p (fun i => g (b + i)) (fun _ => 0) = false := by
          rw [← Bool.not_eq_true, lkB_iff]
          exact fun hq => hc (hq i hi)
        rw [e]
        exact ⟨rfl, rfl, rfl, rfl⟩
  exact loop 0 (by omega) (fun m hm => by omega)
end MLIKE
