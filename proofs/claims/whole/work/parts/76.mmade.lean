/-! made() of the model -/
theorem sp_0 {N : Nat} (hM : 3 ≤ N ∧ N ≤ 60) {r : Nat → Int64} (h : thB N r = false) : spV N r = 0 := by
  have hp1 := phi_ge N hM.2 hM.1
  have h0 : r 0 = 0 := wh_th.mp h 0 (by omega)
  unfold spV
  rw [h0]
  split
  · apply Int64.toInt_inj.mp
    rw [Int64.toInt_div]
    have z : (0 : Int64).toInt = 0 := rfl
    rw [z, Int.zero_tdiv]
    rfl
  · rfl
theorem sp_ne {N : Nat} {r : Nat → Int64} (ht : thB N r = true) (hp : plB N r = true) : spV N r = r 0 / lN N ∧ spV N r ≠ 0 := by
  have e : spV N r = r 0 / lN N := by unfold spV; rw [if_pos hp]
  refine ⟨e, fun z => ?_⟩
  rw [e] at z
  unfold plB at hp
  rw [Bool.and_eq_true] at hp
  have h1 := of_decide_eq_true hp.2
  unfold remL at h1
  rw [z, Int64.zero_mul, Int64.sub_zero] at h1
  have h2 := of_decide_eq_true hp.1
  have : thB N r = false := wh_th.mpr (fun i hi => by
    by_cases e0 : i = 0
    · rw [e0]; exact h1
    · exact h2 i hi (by omega))
  rw [ht] at this
  cases this
theorem spZ_ne {G T on : Nat} (hG : 3 ≤ G ∧ G ≤ 200) (hT : 3 ≤ T ∧ T ≤ 200) (h : on = 0 → T < G) : Int64.ofInt (spZ G T on) ≠ 0 := by
  intro z
  have h1 := congrArg Int64.toInt z
  have hb : 0 < spZ G T on ∧ spZ G T on < 1000 := by
    unfold spZ
    by_cases e : on = 0
    · have := h e; rw [if_pos e]; omega
    · rw [if_neg e]; omega
  rw [Int64.toInt_ofInt_of_le (by omega) (by omega)] at h1
  have z0 : (0 : Int64).toInt = 0 := rfl
  omega
theorem hit_pair {N : Nat} {A : Nat → Nat → Int64} {f g G T on : Nat} (hM : 3 ≤ N ∧ N ≤ 60) (h2 : TwoP N A f g) (hG : 3 ≤ G ∧ G ≤ 200) (hT : 3 ≤ T ∧ T ≤ 200) (h : hitB N A G T on = true) : (aAt N G T = f ∧ oAt N G T on = g) ∨ (aAt N G T = g ∧ oAt N G T on = f) := by
  obtain ⟨q1, q2, q3, q4, -, -⟩ := of_decide_eq_true h
  obtain ⟨p1, p2, p3, p4, p5, p6, p7⟩ := h2
  have ha := md_lt ((T / Nat.gcd G T : Nat) : Int) (show 0 < N by omega)
  have hb := md_lt (upZ G T on / ((Nat.gcd G T : Nat) : Int)) (show 0 < N by omega)
  have in2 : ∀ c, c < N → spV N (A c) ≠ 0 → c = f ∨ c = g := by
    intro c hc hs
    by_cases e1 : c = f
    · exact Or.inl e1
    · by_cases e2 : c = g
      · exact Or.inr e2
      · exact absurd (sp_0 hM (p5 c hc e1 e2)) hs
  have i1 := in2 (aAt N G T) ha (by rw [q3]; exact spZ_ne hG hT q1)
  have i2 := in2 (oAt N G T on) hb q4
  omega
def SCN (N : Nat) (A : Nat → Nat → Int64) (k : Nat) (l4 l5 l6 : Int32) : Prop :=
  (l4 = -nI 1 ∧ l5 = -nI 1 ∧ l6 = nI 0 ∧ ∀ j, j < k → thB N (A j) = false) ∨
  (∃ f, f < k ∧ l4 = nI f ∧ l5 = -nI 1 ∧ l6 = nI 1 ∧ thB N (A f) = true ∧ plB N (A f) = true ∧ ∀ j, j < k → j ≠ f → thB N (A j) = false) ∨
  (∃ f g, f < g ∧ g < k ∧ l4 = nI f ∧ l5 = nI g ∧ l6 = nI 2 ∧ thB N (A f) = true ∧ thB N (A g) = true ∧ plB N (A f) = true ∧ plB N (A g) = true ∧ ∀ j, j < k → j ≠ f → j ≠ g → thB N (A j) = false)
theorem SCN.no {N : Nat} {A : Nat → Nat → Int64} {k : Nat} {l4 l5 l6 : Int32} (h : SCN N A k l4 l5 l6) (hk : thB N (A k) = false) : SCN N A (k + 1) l4 l5 l6 := by
  rcases h with ⟨a, b, c, d⟩ | ⟨f, h1, h2, h3, h4, h5, h6, h7⟩ | ⟨f, g, h1, h2, h3, h4, h5, h6, h7, h8, h9, h10⟩
  · exact Or.inl ⟨a, b, c, all_s (P := fun j => thB N (A j)) d hk⟩
  · refine Or.inr (Or.inl ⟨f, by omega, h2, h3, h4, h5, h6, fun j hj hne => ?_⟩)
    by_cases e : j = k
    · rw [e]; exact hk
    · exact h7 j (by omega) hne
  · refine Or.inr (Or.inr ⟨f, g, h1, by omega, h3, h4, h5, h6, h7, h8, h9, fun j hj n1 n2 => ?_⟩)
    by_cases e : j = k
    · rw [e]; exact hk
    · exact h10 j (by omega) n1 n2
/-- the model's numbers at a way -/
theorem way_at {N G T on : Nat} (hM : 3 ≤ N ∧ N ≤ 60) (hG : 3 ≤ G ∧ G ≤ 200) (hT : 3 ≤ T ∧ T ≤ 200) {u : Int32} (hu : u.toInt = upZ G T on) : (nI T / nI (Nat.gcd G T)).toInt = ((T / Nat.gcd G T : Nat) : Int) ∧ ((nI T / nI (Nat.gcd G T)).toInt64 * u.toInt64 / (nI T).toInt64).toInt = upZ G T on / ((Nat.gcd G T : Nat) : Int) := by
  have hd1 : 1 ≤ Nat.gcd G T := Nat.gcd_pos_of_pos_left _ (by omega)
  have hd2 : Nat.gcd G T ≤ 200 := Nat.le_trans (Nat.gcd_le_left _ (by omega)) hG.2
  have hdT : Nat.gcd G T ∣ T := Nat.gcd_dvd_right G T
  have hdI : (nI (Nat.gcd G T)).toInt = ((Nat.gcd G T : Nat) : Int) := nI_toInt (by omega)
  have hub : -400 < upZ G T on ∧ upZ G T on < 401 := by
    unfold upZ
    by_cases e : on = 0
    · rw [if_pos e]; omega
    · rw [if_neg e]; omega
  have hdU : ((Nat.gcd G T : Nat) : Int) ∣ upZ G T on := by
    have a1 : ((Nat.gcd G T : Nat) : Int) ∣ (G : Int) := Int.natCast_dvd_natCast.mpr (Nat.gcd_dvd_left G T)
    have a2 : ((Nat.gcd G T : Nat) : Int) ∣ (T : Int) := Int.natCast_dvd_natCast.mpr hdT
    unfold upZ
    by_cases e : on = 0
    · rw [if_pos e]; exact Int.dvd_sub a2 a1
    · rw [if_neg e]; exact Int.dvd_add a2 a1
  have e1 : (nI T / nI (Nat.gcd G T)).toInt = ((T / Nat.gcd G T : Nat) : Int) := by
    rw [Int32.toInt_div, nI_toInt (by omega), hdI]
    have h1 : ((T : Int).tdiv ((Nat.gcd G T : Nat) : Int)) = ((T / Nat.gcd G T : Nat) : Int) := by
      rw [Int.tdiv_eq_ediv_of_nonneg (by omega)]
      rfl
    rw [h1]
    have h2 : T / Nat.gcd G T ≤ T := Nat.div_le_self _ _
    generalize T / Nat.gcd G T = c9 at h2 ⊢
    exact Int.bmod_eq_of_le_mul_two (by omega) (by omega)
  refine ⟨e1, ?_⟩
  obtain ⟨k, hk⟩ := hdU
  obtain ⟨c, hc⟩ := hdT
  generalize hd : Nat.gcd G T = d at *
  have hcd : T / d = c := by rw [hc]; exact Nat.mul_div_cancel_left c (by omega)
  rw [Int64.toInt_div, Int64.toInt_mul, Int32.toInt_toInt64, Int32.toInt_toInt64, Int32.toInt_toInt64, e1, hu, nI_toInt (by omega), hcd]
  have hcT : c ≤ 200 := by
    have : c ≤ d * c := Nat.le_mul_of_pos_left _ hd1
    omega
  have hkb : k.natAbs ≤ 400 := by
    have : k.natAbs ≤ (upZ G T on).natAbs := by
      rw [hk, Int.natAbs_mul, Int.natAbs_natCast]
      exact Nat.le_mul_of_pos_left _ hd1
    omega
  have hprod : (c : Int) * upZ G T on = (T : Int) * k := by
    rw [hk, hc, Int.natCast_mul]
    rw [← Int.mul_assoc, Int.mul_comm (c : Int) (d : Int)]
  have hb2 : ((c : Int) * upZ G T on).natAbs ≤ 200 * 401 := by
    rw [Int.natAbs_mul, Int.natAbs_natCast]
    exact Nat.mul_le_mul hcT (by omega)
  have i1 : ((c : Int) * upZ G T on).bmod (2 ^ 64) = (c : Int) * upZ G T on := by
    generalize (c : Int) * upZ G T on = pz at hb2 ⊢
    exact Int.bmod_eq_of_le_mul_two (by omega) (by omega)
  rw [i1, hprod, Int.mul_tdiv_cancel_left _ (by omega), hk, Int.mul_ediv_cancel_left _ (by omega)]
  exact Int.bmod_eq_of_le_mul_two (by omega) (by omega)
