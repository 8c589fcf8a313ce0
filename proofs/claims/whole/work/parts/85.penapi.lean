/-! closes, arms, arm, lobes, spin -/
theorem TLr_le : ∀ (L : List Arm) (t : Nat), (∀ x ∈ L, AOk x) → 1 ≤ t → TLr t L ≤ t * prd L
  | [], t, _, _ => by show t ≤ t * 1; omega
  | x :: L, t, h, ht => by
    have hx := (h x List.mem_cons_self).2.1
    have hl1 : 1 ≤ Nat.lcm t (dn x) := Nat.lcm_pos ht hx
    have hl : Nat.lcm t (dn x) ≤ t * dn x := by
      unfold Nat.lcm
      exact Nat.div_le_self _ _
    have ih := TLr_le L (Nat.lcm t (dn x)) (fun y hy => h y (List.mem_cons_of_mem _ hy)) hl1
    show TLr (Nat.lcm t (dn x)) L ≤ t * (dn x * prd L)
    rw [← Nat.mul_assoc]
    exact Nat.le_trans ih (Nat.mul_le_mul_right _ hl)
theorem pnT_le {K : KA} {nw np p : Nat} (hK : KAok K nw np) (hp : p < np) : PnT K p ≤ 9999 * 99 ^ 4 := by
  have h := (pn_ok hK hp).1.flt
  have := TLr_le (PnL K p) 1 h.1 (Nat.le_refl _)
  rw [Nat.one_mul] at this
  exact Nat.le_trans this h.2
theorem pn_at {K : KA} {nw np p : Nat} (hK : KAok K nw np) (hp : p < np) (k : Nat) : ((PnL K p).getD k arD).1.toInt.natAbs ≤ 9999 ∧ ((PnL K p).getD k arD).2.2.natAbs ≤ 2000 := by
  by_cases e : k < (PnL K p).length
  · have := (pn_ok hK hp).1.flt.1 _ (getD_mem e)
    exact ⟨this.2.2.2.1, this.2.2.2.2⟩
  · have : (PnL K p).getD k arD = arD := by
      rw [List.getD_eq_getElem?_getD, List.getElem?_eq_none (by omega)]
      rfl
    rw [this]
    exact ⟨by decide, by decide⟩
theorem pnW_bd {K : KA} {nw np p : Nat} (hK : KAok K nw np) (hp : p < np) (k : Nat) : (PnW K p k).toInt.natAbs < 2 ^ 58 := by
  have h1 := pnT_le hK hp
  have h2 := (pn_at hK hp k).1
  unfold PnW wnd
  have h3 : PnT K p / dn ((PnL K p).getD k arD) ≤ PnT K p := Nat.div_le_self _ _
  generalize PnT K p / dn ((PnL K p).getD k arD) = q at *
  generalize ((PnL K p).getD k arD).1 = u at *
  rw [Int64.toInt_mul, lN_toI (by omega)]
  have h4 : ((q : Int) * u.toInt).natAbs ≤ 9999 * 99 ^ 4 * 9999 := by
    rw [Int.natAbs_mul, Int.natAbs_natCast]
    exact Nat.mul_le_mul (by omega) h2
  generalize (q : Int) * u.toInt = z at *
  rw [Int.bmod_eq_of_le_mul_two (by omega) (by omega)]
  omega
/-- the lobes, by neighbours and by the first -/
def lbC (F : Nat → Int64) : Nat → Nat
  | 0 => 0
  | i + 1 => Nat.gcd (lbC F i) (F (i + 1) - F i).toInt.natAbs
def lbM (F : Nat → Int64) : Nat → Nat
  | 0 => 0
  | i + 1 => Nat.gcd (lbM F i) (F (i + 1) - F 0).toInt.natAbs
theorem lb_eq {F : Nat → Int64} (hF : ∀ k, (F k).toInt.natAbs < 2 ^ 58) : ∀ i, lbC F i = lbM F i ∧ ((lbC F i : Nat) : Int) ∣ (F i).toInt - (F 0).toInt
  | 0 => ⟨rfl, by rw [Int.sub_self]; exact Int.dvd_zero _⟩
  | i + 1 => by
    obtain ⟨e, hd⟩ := lb_eq hF i
    have hsub : ∀ a b : Int64, a.toInt.natAbs < 2 ^ 58 → b.toInt.natAbs < 2 ^ 58 → (a - b).toInt = a.toInt - b.toInt := fun a b h1 h2 => by
      rw [Int64.toInt_sub, Int.bmod_eq_of_le_mul_two (by omega) (by omega)]
    have d1 := hsub _ _ (hF (i + 1)) (hF i)
    have d2 := hsub _ _ (hF (i + 1)) (hF 0)
    have key : ∀ (g : Nat) (x y : Int), (g : Int) ∣ x - y → Nat.gcd g x.natAbs = Nat.gcd g y.natAbs := by
      intro g x y h
      have one : ∀ (x y : Int), (g : Int) ∣ x - y → Nat.gcd g x.natAbs ∣ Nat.gcd g y.natAbs := by
        intro x y h
        refine Nat.dvd_gcd (Nat.gcd_dvd_left _ _) ?_
        have h1 : ((Nat.gcd g x.natAbs : Nat) : Int) ∣ (g : Int) := Int.natCast_dvd_natCast.mpr (Nat.gcd_dvd_left _ _)
        have h2 : ((Nat.gcd g x.natAbs : Nat) : Int) ∣ x := Int.dvd_natAbs.mp (Int.natCast_dvd_natCast.mpr (Nat.gcd_dvd_right _ _))
        have h3 : ((Nat.gcd g x.natAbs : Nat) : Int) ∣ y := by
          have h4 := Int.dvd_sub h2 (Int.dvd_trans h1 h)
          rw [show x - (x - y) = y by omega] at h4
          exact h4
        exact Int.natCast_dvd_natCast.mp (Int.dvd_natAbs.mpr h3)
      refine Nat.dvd_antisymm (one x y h) (one y x ?_)
      have := Int.dvd_neg.mpr h
      rw [show -(x - y) = y - x by omega] at this
      exact this
    have hk := key (lbC F i) ((F (i + 1)).toInt - (F 0).toInt) ((F (i + 1)).toInt - (F i).toInt) (by
      rw [show (F (i + 1)).toInt - (F 0).toInt - ((F (i + 1)).toInt - (F i).toInt) = (F i).toInt - (F 0).toInt by omega]
      exact hd)
    refine ⟨?_, ?_⟩
    · show Nat.gcd (lbC F i) (F (i + 1) - F i).toInt.natAbs = Nat.gcd (lbM F i) (F (i + 1) - F 0).toInt.natAbs
      rw [d1, d2, ← e, hk]
    · show ((Nat.gcd (lbC F i) (F (i + 1) - F i).toInt.natAbs : Nat) : Int) ∣ _
      rw [d1]
      rw [show (F (i + 1)).toInt - (F 0).toInt = ((F (i + 1)).toInt - (F i).toInt) + ((F i).toInt - (F 0).toInt) by omega]
      refine Int.dvd_add (Int.dvd_natAbs.mp (Int.natCast_dvd_natCast.mpr (Nat.gcd_dvd_right _ _))) (Int.dvd_trans (Int.natCast_dvd_natCast.mpr (Nat.gcd_dvd_left _ _)) hd)
theorem lb_le (F : Nat → Int64) (hF : ∀ k, (F k).toInt.natAbs < 2 ^ 58) : ∀ i, lbC F i < 2 ^ 62 ∧ lbM F i < 2 ^ 62
  | 0 => ⟨by show 0 < 2 ^ 62; omega, by show 0 < 2 ^ 62; omega⟩
  | i + 1 => by
    obtain ⟨h1, h2⟩ := lb_le F hF i
    have hd : ∀ a b : Int64, a.toInt.natAbs < 2 ^ 58 → b.toInt.natAbs < 2 ^ 58 → (a - b).toInt.natAbs < 2 ^ 60 := fun a b h1 h2 => by
      rw [Int64.toInt_sub, Int.bmod_eq_of_le_mul_two (by omega) (by omega)]
      omega
    have gl : ∀ a b : Nat, a < 2 ^ 62 → b < 2 ^ 60 → Nat.gcd a b < 2 ^ 62 := fun a b h1 h2 => by
      by_cases e : b = 0
      · rw [e, Nat.gcd_zero_right]; exact h1
      · have := Nat.gcd_le_right a (show 0 < b by omega)
        omega
    exact ⟨gl _ _ h1 (hd _ _ (hF _) (hF _)), gl _ _ h2 (hd _ _ (hF _) (hF _))⟩
def PnF (K : KA) (p k : Nat) : Int64 := PnW K p (PnO K p k)
def PnB (K : KA) (p : Nat) : Nat := lbC (PnF K p) ((PnL K p).length - 1)
section PENAPI
variable {X : ab_X} {l : Launch}
theorem c_lobeNumber (m : Nat) (F : Nat → Int64) (w : ab_W) (n : Nat) {tc : Int64} {f : Nat → Int64} (hm : m ≤ 5) (hF : ∀ k, (F k).toInt.natAbs < 2 ^ 58) (h12 : w 12 = oPA (nI m) tc) (h16 : w 16 = aJ 5 f) (hf : ∀ k, k < m → f k = F k) :
    ab_C X l i_PA_lobeNumber [.ref 12] w n 0 0 (ab_q1 (some (.long (lN (lbC F (m - 1))))) w n) := by
  obtain ⟨w, rfl⟩ := va_ex2 h12 h16
  have hd : ∀ a b : Int64, a.toInt.natAbs < 2 ^ 58 → b.toInt.natAbs < 2 ^ 58 → (a - b).toInt.natAbs < 2 ^ 60 := fun a b h1 h2 => by
    rw [Int64.toInt_sub, Int.bmod_eq_of_le_mul_two (by omega) (by omega)]
    omega
  refine ab_metL cd_52 om_52 rfl rfl (ab_sound ok_52 [4] 80 ?_)
  have loop : ∀ i, i ≤ m → 1 ≤ i → ab_Ev X l i_PA_lobeNumber 4 [some (.ref 12), some (.long (lN (lbC F (i - 1)))), none, some (.int (nI i))] [] (va_up (va_up w 16 (aJ 5 f)) 12 (oPA (nI m) tc)) n 0 0 (ab_q1 (some (.long (lN (lbC F (m - 1))))) (va_up (va_up w 16 (aJ 5 f)) 12 (oPA (nI m) tc)) n) := by
    refine ab_up m ?_ (fun i hi ih => ?_)
    · intro _
      refine ab_sound ok_52 [4] 80 ?_
      refine And.intro (fun _ => ?_) (fun h_9 => absurd (nI_le (Nat.le_refl _) (by omega)) h_9)
      exact ⟨rfl, rfl, rfl⟩
    · intro hi1
      obtain ⟨j, rfl⟩ : ∃ j, i = j + 1 := ⟨i - 1, by omega⟩
      have hs1 : nI (j + 1) - nI 1 = nI j := by rw [pk_sub (by omega)]; rfl
      have hb := (lb_le F hF j).1
      have ih := ih (by omega)
      rw [show j + 1 + 1 - 1 = j + 1 by omega] at ih
      rw [show j + 1 - 1 = j by omega]
      refine ab_sound ok_52 [4] 80 ?_
      refine And.intro (fun h_9 => absurd h_9 (nI_ge hi (by omega))) (fun _ => ?_)
      refine And.intro (vp_in_nI (by omega) (by omega)) ?_
      refine And.intro ((by rw [hs1]; exact vp_in_nI (by omega) (by omega))) ?_
      rw [hs1, nI_clamp (by omega), nI_clamp (by omega), hf (j + 1) (by omega), hf j (by omega)]
      (refine Exists.intro 0 ?_; refine ⟨0, _, Nat.zero_le _, Nat.zero_le _, c_commonDivisor _ _ (by rw [lN_toI (by omega)]; omega) (by have := hd _ _ (hF (j + 1)) (hF j); omega) _ _, ?_⟩; refine ab_q1_elim ?_)
      rw [lN_toI (by omega), Int.natAbs_natCast]
      exact ab_ev_of ih (by rw [nI_s (j + 1)]; rfl) rfl rfl
  by_cases e : m = 0
  · subst e
    refine ab_sound ok_52 [] 80 ?_
    refine And.intro (fun _ => ?_) (fun h_9 => absurd ((by decide)) h_9)
    exact ⟨rfl, rfl, rfl⟩
  · exact loop 1 (by omega) (Nat.le_refl _)
def KK (w : ab_W) (kn : Nat) (K : KA) (nr nw np : Nat) : Prop := CKit w kn K nr nw np ∧ KAok K nw np ∧ KP w
theorem KK.fr {F : Nat → Prop} {w w' : ab_W} {q : Nat} {K : KA} {nr nw np : Nat} (h : KK w q K nr nw np) (hf : Fr F w w') (hF : ∀ k, F k → ¬ (q ≤ k ∧ k ≤ q + 14) ∧ ¬ (12 ≤ k ∧ k ≤ 16)) : KK w' q K nr nw np := ⟨h.1.fr hf (fun k hk => (hF k hk).1), h.2.1, h.2.2.fr hf (fun k hk => (hF k hk).2)⟩
abbrev FG (k : Nat) : Prop := 12 ≤ k ∧ k ≤ 16
theorem c_isPen_y_44 (x : Int32) (p : Nat) (w : ab_W) (n : Nat) {ks : Nat} {lf : Int32} {K : KA} {nr nw np : Nat} (hx : x = nI p) (hp : p < np) (h8 : np ≤ 8) (h0 : w 0 = oWP 44 ks lf) (hC : CKit w 44 K nr nw np) : ab_C X l i_WP_isPen [.ref 0, .int x] w n 0 0 (ab_q1 (some (.int (nI 1))) w n) := by
  subst hx
  obtain ⟨⟨nm, hk⟩, -⟩ := hC
  obtain ⟨w, rfl⟩ := va_ex2 h0 hk
  refine ab_metI cd_113 om_113 rfl (ab_sound ok_113 [] 50 ?_)
  refine And.intro (fun h_9 => absurd h_9 (nI_pos (by omega))) (fun _ => ?_)
  refine And.intro (fun h_9 => absurd h_9 (nI_ge hp (by omega))) (fun _ => ?_)
  exact ⟨rfl, rfl, rfl, rfl⟩
theorem c_isPen_n_44 (x : Int32) (w : ab_W) (n : Nat) {ks : Nat} {lf : Int32} {K : KA} {nr nw np : Nat} (hx : x < 0 ∨ nI np ≤ x) (h0 : w 0 = oWP 44 ks lf) (hC : CKit w 44 K nr nw np) : ab_C X l i_WP_isPen [.ref 0, .int x] w n 0 0 (ab_q1 (some (.int (nI 0))) w n) := by
  obtain ⟨⟨nm, hk⟩, -⟩ := hC
  obtain ⟨w, rfl⟩ := va_ex2 h0 hk
  refine ab_metI cd_113 om_113 rfl (ab_sound ok_113 [] 50 ?_)
  refine And.intro (fun e => ?_) (fun e => ?_)
  · exact ⟨rfl, rfl, rfl, rfl⟩
  · refine And.intro (fun _ => ?_) (fun h_9 => absurd (hx.resolve_left e) h_9)
    exact ⟨rfl, rfl, rfl, rfl⟩
theorem k_WP_closes_44 (x : Int32) (p : Nat) (w : ab_W) (n : Nat) {ks : Nat} {lf : Int32} {K : KA} {nr nw np : Nat} (hx : x = nI p) (hp : p < np) (h0 : w 0 = oWP 44 ks lf) (hK : KK w 44 K nr nw np) : ab_C X l i_WP_closes [.ref 0, .int x] w n 0 0 (qL (lN (PnT K p)) fun w' n' => n = n' ∧ Fr FG w w' ∧ KP w') := by
  obtain ⟨hC, hA, hP⟩ := hK
  obtain ⟨⟨pa, pb, k12⟩, -⟩ := id hP
  obtain ⟨w9, rfl⟩ := va_ex2 h0 k12
  refine ab_mqL cd_112 om_112 rfl rfl (ab_sound ok_112 [] 80 ?_)
  (refine Exists.intro 0 ?_; refine ⟨0, _, Nat.zero_le _, Nat.zero_le _, c_isPen_y_44 _ p _ _ hx hp hA.1.2 rfl hC, ?_⟩; refine ab_q1_elim ?_)
  refine And.intro (fun _ => ?_) (fun h_9 => absurd h_9 ((by decide)))
  (refine Exists.intro 0 ?_; refine ⟨0, _, Nat.zero_le _, Nat.zero_le _, k_gather_44 _ p _ _ hx hp hA hC hP, ?_⟩; rintro _ w1 _ ⟨rfl, rfl, f1, hG⟩)
  have z0 : w1 0 = oWP 44 ks lf := f1.get rfl (by omega)
  have hkp := hG.kp
  obtain ⟨w1, rfl⟩ := va_ex2 z0 hG.1
  exact ⟨rfl, rfl, f1, hkp⟩
theorem k_WP_arms_44 (x : Int32) (p : Nat) (w : ab_W) (n : Nat) {ks : Nat} {lf : Int32} {K : KA} {nr nw np : Nat} (hx : x = nI p) (hp : p < np) (h0 : w 0 = oWP 44 ks lf) (hK : KK w 44 K nr nw np) : ab_C X l i_WP_arms [.ref 0, .int x] w n 0 0 (qI (nI (PnL K p).length) fun w' n' => n = n' ∧ Fr FG w w' ∧ KP w') := by
  obtain ⟨hC, hA, hP⟩ := hK
  obtain ⟨⟨pa, pb, k12⟩, -⟩ := id hP
  obtain ⟨w9, rfl⟩ := va_ex2 h0 k12
  refine ab_mqI cd_114 om_114 rfl (ab_sound ok_114 [] 80 ?_)
  (refine Exists.intro 0 ?_; refine ⟨0, _, Nat.zero_le _, Nat.zero_le _, c_isPen_y_44 _ p _ _ hx hp hA.1.2 rfl hC, ?_⟩; refine ab_q1_elim ?_)
  refine And.intro (fun _ => ?_) (fun h_9 => absurd h_9 ((by decide)))
  (refine Exists.intro 0 ?_; refine ⟨0, _, Nat.zero_le _, Nat.zero_le _, k_gather_44 _ p _ _ hx hp hA hC hP, ?_⟩; rintro _ w1 _ ⟨rfl, rfl, f1, hG⟩)
  have z0 : w1 0 = oWP 44 ks lf := f1.get rfl (by omega)
  have hkp := hG.kp
  obtain ⟨w1, rfl⟩ := va_ex2 z0 hG.1
  exact ⟨rfl, rfl, f1, hkp⟩
theorem k_WP_lobes_44 (x : Int32) (p : Nat) (w : ab_W) (n : Nat) {ks : Nat} {lf : Int32} {K : KA} {nr nw np : Nat} (hx : x = nI p) (hp : p < np) (h0 : w 0 = oWP 44 ks lf) (hK : KK w 44 K nr nw np) : ab_C X l i_WP_lobes [.ref 0, .int x] w n 0 0 (qL (lN (PnB K p)) fun w' n' => n = n' ∧ Fr FG w w' ∧ KP w') := by
  obtain ⟨hC, hA, hP⟩ := hK
  have hl : (PnL K p).length ≤ 5 := Nat.le_trans (flt_len _) (pn_ok hA hp).2
  obtain ⟨⟨pa, pb, k12⟩, -⟩ := id hP
  obtain ⟨w9, rfl⟩ := va_ex2 h0 k12
  refine ab_mqL cd_115 om_115 rfl rfl (ab_sound ok_115 [] 80 ?_)
  (refine Exists.intro 0 ?_; refine ⟨0, _, Nat.zero_le _, Nat.zero_le _, c_isPen_y_44 _ p _ _ hx hp hA.1.2 rfl hC, ?_⟩; refine ab_q1_elim ?_)
  refine And.intro (fun _ => ?_) (fun h_9 => absurd h_9 ((by decide)))
  (refine Exists.intro 0 ?_; refine ⟨0, _, Nat.zero_le _, Nat.zero_le _, k_gather_44 _ p _ _ hx hp hA hC hP, ?_⟩; rintro _ w1 _ ⟨rfl, rfl, f1, hG⟩)
  have z0 : w1 0 = oWP 44 ks lf := f1.get rfl (by omega)
  have hkp := hG.kp
  obtain ⟨g0, g1, g2, g3, f16, g4, g5⟩ := hG
  obtain ⟨w1, rfl⟩ := va_ex2 z0 g0
  (refine Exists.intro 0 ?_; refine ⟨0, _, Nat.zero_le _, Nat.zero_le _, c_lobeNumber (PnL K p).length (PnF K p) _ _ hl (fun k => pnW_bd hA hp _) rfl g4 g5, ?_⟩; refine ab_q1_elim ?_)
  exact ⟨rfl, rfl, f1, hkp⟩
theorem k_WP_pen_n_44 (x : Int32) (w : ab_W) (n : Nat) {ks : Nat} {lf : Int32} {K : KA} {nr nw np : Nat} (hx : x < 0 ∨ nI np ≤ x) (h0 : w 0 = oWP 44 ks lf) (hC : CKit w 44 K nr nw np) : ab_C X l i_WP_closes [.ref 0, .int x] w n 0 0 (ab_q1 (some (.long (-lN 1))) w n) ∧ ab_C X l i_WP_lobes [.ref 0, .int x] w n 0 0 (ab_q1 (some (.long (-lN 1))) w n) ∧ ab_C X l i_WP_arms [.ref 0, .int x] w n 0 0 (ab_q1 (some (.int (-nI 1))) w n) := by
  obtain ⟨w, rfl⟩ := va_ex h0
  refine ⟨?_, ?_, ?_⟩
  · refine ab_metL cd_112 om_112 rfl rfl (ab_sound ok_112 [] 80 ?_)
    (refine Exists.intro 0 ?_; refine ⟨0, _, Nat.zero_le _, Nat.zero_le _, c_isPen_n_44 _ _ _ hx rfl hC, ?_⟩; refine ab_q1_elim ?_)
    refine And.intro (fun h_9 => absurd (rfl) h_9) (fun _ => ?_)
    exact ⟨rfl, rfl, rfl⟩
  · refine ab_metL cd_115 om_115 rfl rfl (ab_sound ok_115 [] 80 ?_)
    (refine Exists.intro 0 ?_; refine ⟨0, _, Nat.zero_le _, Nat.zero_le _, c_isPen_n_44 _ _ _ hx rfl hC, ?_⟩; refine ab_q1_elim ?_)
    refine And.intro (fun h_9 => absurd (rfl) h_9) (fun _ => ?_)
    exact ⟨rfl, rfl, rfl⟩
  · refine ab_metI cd_114 om_114 rfl (ab_sound ok_114 [] 80 ?_)
    (refine Exists.intro 0 ?_; refine ⟨0, _, Nat.zero_le _, Nat.zero_le _, c_isPen_n_44 _ _ _ hx rfl hC, ?_⟩; refine ab_q1_elim ?_)
    refine And.intro (fun h_9 => absurd (rfl) h_9) (fun _ => ?_)
    exact ⟨rfl, rfl, rfl⟩
theorem k_WP_arm_44 (x y z : Int32) (p i : Nat) (e : Bool) (w : ab_W) (n : Nat) {mc ms : Nat} {ks : Nat} {lf : Int32} {K : KA} {nr nw np : Nat} (hx : x = nI p) (hy : y = nI i) (hz : z = b01 e) (hp : p < np) (hi : i < (PnL K p).length) (h0 : w 0 = oWP 44 ks lf) (hK : KK w 44 K nr nw np) :
    ab_Ev X l i_WP_arm 0 (ab_en (ab_mx i_WP_arm) [.ref 0, .int x, .int y, .int z]) [] w n mc ms (qL (if e = true then Int64.ofInt (PnS K p (PnO K p i)) else PnF K p i) fun w' n' => n = n' ∧ Fr FG w w' ∧ KP w') := by
  obtain ⟨hC, hA, hP⟩ := hK
  have hl : (PnL K p).length ≤ 5 := Nat.le_trans (flt_len _) (pn_ok hA hp).2
  subst hy
  have z0 : ¬ z < 0 := by rw [hz]; cases e <;> decide
  have z1 : z ≤ nI 1 := by rw [hz]; cases e <;> decide
  obtain ⟨⟨pa, pb, k12⟩, -⟩ := id hP
  obtain ⟨w9, rfl⟩ := va_ex2 h0 k12
  refine ab_sound ok_144 [] 80 ?_
  (refine Exists.intro 0 ?_; refine ⟨0, _, Nat.zero_le _, Nat.zero_le _, c_isPen_y_44 _ p _ _ hx hp hA.1.2 rfl hC, ?_⟩; refine ab_q1_elim ?_)
  refine And.intro (fun h_9 => absurd h_9 ((by decide))) (fun _ => ?_)
  refine And.intro (fun h_9 => absurd h_9 (z0)) (fun _ => ?_)
  refine And.intro (fun _ => ?_) (fun h_9 => absurd (z1) h_9)
  (refine Exists.intro 0 ?_; refine ⟨0, _, Nat.zero_le _, Nat.zero_le _, k_gather_44 _ p _ _ hx hp hA hC hP, ?_⟩; rintro _ w1 _ ⟨rfl, rfl, f1, hG⟩)
  have y0 : w1 0 = oWP 44 ks lf := f1.get rfl (by omega)
  have hkp := hG.kp
  obtain ⟨g0, g1, g2, ⟨f15, g3, g6⟩, f16, g4, g5⟩ := hG
  obtain ⟨w1, rfl⟩ := va_ex4 y0 g0 g3 g4
  refine And.intro (fun h_9 => absurd h_9 (nI_pos (by omega))) (fun _ => ?_)
  refine And.intro (fun _ => ?_) (fun h_9 => absurd (nI_lt hi (by omega)) h_9)
  cases e with
  | false =>
    refine And.intro (fun h_9 => absurd (hz) h_9) (fun _ => ?_)
    refine And.intro (vp_in_nI (by omega) (by omega)) ?_
    rw [nI_clamp (by omega), g5 i hi]
    exact ⟨rfl, rfl, f1, hkp⟩
  | true =>
    refine And.intro (fun _ => ?_) (fun h_9 => absurd h_9 ((by rw [hz]; decide)))
    refine And.intro (vp_in_nI (by omega) (by omega)) ?_
    rw [nI_clamp (by omega), g6 i hi]
    exact ⟨rfl, rfl, f1, hkp⟩
theorem k_WP_arm_n_44 (x y z : Int32) (w : ab_W) (n : Nat) {ks : Nat} {lf : Int32} {K : KA} {nr nw np : Nat} (hb : (x < 0 ∨ nI np ≤ x) ∨ (z < 0 ∨ nI 2 ≤ z) ∨ ∃ p, p < np ∧ x = nI p ∧ (y < 0 ∨ nI (PnL K p).length ≤ y)) (h0 : w 0 = oWP 44 ks lf) (hK : KK w 44 K nr nw np) :
    ab_Ev X l i_WP_arm 0 (ab_en (ab_mx i_WP_arm) [.ref 0, .int x, .int y, .int z]) [] w n 1 6 (qT fun w' n' => n = n' ∧ Fr FG w w' ∧ KP w') := by
  obtain ⟨hC, hA, hP⟩ := hK
  obtain ⟨⟨pa, pb, k12⟩, -⟩ := id hP
  have hfin : qT (fun w' n' => n = n' ∧ Fr FG w w' ∧ KP w') (some (.retAddr 7777)) w n := ⟨rfl, rfl, Fr.refl, hP⟩
  obtain ⟨w9, rfl⟩ := va_ex2 h0 k12
  refine ab_sound ok_144 [] 80 ?_
  rcases in_or np (by have := hA.1.2; omega) x with ⟨p, hp, hx⟩ | hx
  · (refine Exists.intro 0 ?_; refine ⟨0, _, Nat.zero_le _, Nat.zero_le _, c_isPen_y_44 _ p _ _ hx hp hA.1.2 rfl hC, ?_⟩; refine ab_q1_elim ?_)
    refine And.intro (fun h_9 => absurd h_9 ((by decide))) (fun _ => ?_)
    refine And.intro (fun e1 => ?_) (fun e1 => ?_)
    · exact ⟨⟨by omega, by omega⟩, hfin⟩
    refine And.intro (fun e2 => ?_) (fun e2 => ?_)
    · have hl : (PnL K p).length ≤ 5 := Nat.le_trans (flt_len _) (pn_ok hA hp).2
      have hy : y < 0 ∨ nI (PnL K p).length ≤ y := by
        rcases hb with hb | hb | ⟨p2, hp2, hx2, hb⟩
        · exact absurd hx (n_out (by have := hA.1.2; omega) hp hb)
        · exfalso
          have h9 := hb.resolve_left e1
          rw [i32_le] at h9 e2
          have q1 := nI_toInt (show 1 < 2 ^ 31 by omega)
          have q2 := nI_toInt (show 2 < 2 ^ 31 by omega)
          omega
        · have h8 := hA.1.2
          have := (nI_eq (by omega) (by omega)).mp (hx.symm.trans hx2)
          subst this
          exact hb
      (refine Exists.intro 0 ?_; refine ⟨0, _, Nat.zero_le _, Nat.zero_le _, k_gather_44 _ p _ _ hx hp hA hC hP, ?_⟩; rintro _ w1 _ ⟨rfl, rfl, f1, hG⟩)
      have y0 : w1 0 = oWP 44 ks lf := f1.get rfl (by omega)
      have hkp := hG.kp
      have hfin2 : qT (fun w' n' => n = n' ∧ Fr FG (va_up (va_up w9 12 (oPA pa pb)) 0 (oWP 44 ks lf)) w' ∧ KP w') (some (.retAddr 7777)) w1 n := ⟨rfl, rfl, f1, hkp⟩
      obtain ⟨w1, rfl⟩ := va_ex2 y0 hG.1
      refine And.intro (fun e3 => ?_) (fun e3 => ?_)
      · exact ⟨⟨by omega, by omega⟩, hfin2⟩
      refine And.intro (fun h_9 => absurd h_9 ((by have := hy.resolve_left e3; rw [i32_le] at this; rw [i32_lt]; omega))) (fun _ => ?_)
      exact ⟨⟨by omega, by omega⟩, hfin2⟩
    · exact ⟨⟨by omega, by omega⟩, hfin⟩
  · (refine Exists.intro 0 ?_; refine ⟨0, _, Nat.zero_le _, Nat.zero_le _, c_isPen_n_44 _ _ _ hx rfl hC, ?_⟩; refine ab_q1_elim ?_)
    refine And.intro (fun _ => ?_) (fun h_9 => absurd (rfl) h_9)
    exact ⟨⟨by omega, by omega⟩, hfin⟩
theorem k_WP_spin_44 (x y : Int32) (v : Nat) (e : Bool) (w : ab_W) (n : Nat) {mc ms : Nat} {ks : Nat} {lf : Int32} {K : KA} {nr nw np : Nat} (hx : x = nI v) (hy : y = b01 e) (hv : v < nw) (h0 : w 0 = oWP 44 ks lf) (hK : KK w 44 K nr nw np) :
    ab_Ev X l i_WP_spin 0 (ab_en (ab_mx i_WP_spin) [.ref 0, .int x, .int y]) [] w n mc ms (ab_q1 (some (.int (if e = true then kSl K v else kSu K v))) w n) := by
  obtain ⟨⟨⟨nm, hk⟩, -, -, -, -, ⟨f11, h11, g11⟩, ⟨f12, h12, g12⟩, -⟩, hA, hP⟩ := hK
  have hw := hA.1.1
  subst hx
  have z0 : ¬ y < 0 := by rw [hy]; cases e <;> decide
  have z1 : y ≤ nI 1 := by rw [hy]; cases e <;> decide
  obtain ⟨w, rfl⟩ := va_ex4 h0 hk h11 h12
  refine ab_sound ok_143 [] 80 ?_
  refine And.intro (fun h_9 => absurd h_9 (nI_pos (by omega))) (fun _ => ?_)
  refine And.intro (fun h_9 => absurd h_9 (nI_ge hv (by omega))) (fun _ => ?_)
  refine And.intro (fun h_9 => absurd h_9 (z0)) (fun _ => ?_)
  refine And.intro (fun _ => ?_) (fun h_9 => absurd (z1) h_9)
  cases e with
  | false =>
    refine And.intro (fun h_9 => absurd (hy) h_9) (fun _ => ?_)
    refine And.intro (vp_in_nI (by omega) (by omega)) ?_
    rw [nI_clamp (by omega), g11 v hv]
    exact ⟨rfl, rfl, rfl⟩
  | true =>
    refine And.intro (fun _ => ?_) (fun h_9 => absurd h_9 ((by rw [hy]; decide)))
    refine And.intro (vp_in_nI (by omega) (by omega)) ?_
    rw [nI_clamp (by omega), g12 v hv]
    exact ⟨rfl, rfl, rfl⟩
theorem k_WP_spin_n_44 (x y : Int32) (w : ab_W) (n : Nat) {ks : Nat} {lf : Int32} {K : KA} {nr nw np : Nat} (hb : (x < 0 ∨ nI nw ≤ x) ∨ (y < 0 ∨ nI 2 ≤ y)) (h0 : w 0 = oWP 44 ks lf) (hK : KK w 44 K nr nw np) :
    ab_Ev X l i_WP_spin 0 (ab_en (ab_mx i_WP_spin) [.ref 0, .int x, .int y]) [] w n 1 6 (ab_q1 (some (.retAddr 7777)) w n) := by
  obtain ⟨⟨⟨nm, hk⟩, -⟩, -⟩ := hK
  obtain ⟨w, rfl⟩ := va_ex2 h0 hk
  refine ab_sound ok_143 [] 80 ?_
  refine And.intro (fun e1 => ?_) (fun e1 => ?_)
  · exact ⟨⟨by omega, by omega⟩, rfl, rfl, rfl⟩
  refine And.intro (fun e2 => ?_) (fun e2 => ?_)
  · exact ⟨⟨by omega, by omega⟩, rfl, rfl, rfl⟩
  refine And.intro (fun e3 => ?_) (fun e3 => ?_)
  · exact ⟨⟨by omega, by omega⟩, rfl, rfl, rfl⟩
  have hq : ¬ y ≤ nI 1 := fun z => by
    have h9 := (hb.resolve_left (fun q => q.elim e1 e2)).resolve_left e3
    rw [i32_le] at h9 z
    have q1 := nI_toInt (show 1 < 2 ^ 31 by omega)
    have q2 := nI_toInt (show 2 < 2 ^ 31 by omega)
    omega
  refine And.intro (fun h_9 => absurd h_9 (hq)) (fun _ => ?_)
  exact ⟨⟨by omega, by omega⟩, rfl, rfl, rfl⟩
theorem c_isPen_y_59 (x : Int32) (p : Nat) (w : ab_W) (n : Nat) {ks : Nat} {lf : Int32} {K : KA} {nr nw np : Nat} (hx : x = nI p) (hp : p < np) (h8 : np ≤ 8) (h0 : w 0 = oWP 59 ks lf) (hC : CKit w 59 K nr nw np) : ab_C X l i_WP_isPen [.ref 0, .int x] w n 0 0 (ab_q1 (some (.int (nI 1))) w n) := by
  subst hx
  obtain ⟨⟨nm, hk⟩, -⟩ := hC
  obtain ⟨w, rfl⟩ := va_ex2 h0 hk
  refine ab_metI cd_113 om_113 rfl (ab_sound ok_113 [] 50 ?_)
  refine And.intro (fun h_9 => absurd h_9 (nI_pos (by omega))) (fun _ => ?_)
  refine And.intro (fun h_9 => absurd h_9 (nI_ge hp (by omega))) (fun _ => ?_)
  exact ⟨rfl, rfl, rfl, rfl⟩
theorem c_isPen_n_59 (x : Int32) (w : ab_W) (n : Nat) {ks : Nat} {lf : Int32} {K : KA} {nr nw np : Nat} (hx : x < 0 ∨ nI np ≤ x) (h0 : w 0 = oWP 59 ks lf) (hC : CKit w 59 K nr nw np) : ab_C X l i_WP_isPen [.ref 0, .int x] w n 0 0 (ab_q1 (some (.int (nI 0))) w n) := by
  obtain ⟨⟨nm, hk⟩, -⟩ := hC
  obtain ⟨w, rfl⟩ := va_ex2 h0 hk
  refine ab_metI cd_113 om_113 rfl (ab_sound ok_113 [] 50 ?_)
  refine And.intro (fun e => ?_) (fun e => ?_)
  · exact ⟨rfl, rfl, rfl, rfl⟩
  · refine And.intro (fun _ => ?_) (fun h_9 => absurd (hx.resolve_left e) h_9)
    exact ⟨rfl, rfl, rfl, rfl⟩
theorem k_WP_closes_59 (x : Int32) (p : Nat) (w : ab_W) (n : Nat) {ks : Nat} {lf : Int32} {K : KA} {nr nw np : Nat} (hx : x = nI p) (hp : p < np) (h0 : w 0 = oWP 59 ks lf) (hK : KK w 59 K nr nw np) : ab_C X l i_WP_closes [.ref 0, .int x] w n 0 0 (qL (lN (PnT K p)) fun w' n' => n = n' ∧ Fr FG w w' ∧ KP w') := by
  obtain ⟨hC, hA, hP⟩ := hK
  obtain ⟨⟨pa, pb, k12⟩, -⟩ := id hP
  obtain ⟨w9, rfl⟩ := va_ex2 h0 k12
  refine ab_mqL cd_112 om_112 rfl rfl (ab_sound ok_112 [] 80 ?_)
  (refine Exists.intro 0 ?_; refine ⟨0, _, Nat.zero_le _, Nat.zero_le _, c_isPen_y_59 _ p _ _ hx hp hA.1.2 rfl hC, ?_⟩; refine ab_q1_elim ?_)
  refine And.intro (fun _ => ?_) (fun h_9 => absurd h_9 ((by decide)))
  (refine Exists.intro 0 ?_; refine ⟨0, _, Nat.zero_le _, Nat.zero_le _, k_gather_59 _ p _ _ hx hp hA hC hP, ?_⟩; rintro _ w1 _ ⟨rfl, rfl, f1, hG⟩)
  have z0 : w1 0 = oWP 59 ks lf := f1.get rfl (by omega)
  have hkp := hG.kp
  obtain ⟨w1, rfl⟩ := va_ex2 z0 hG.1
  exact ⟨rfl, rfl, f1, hkp⟩
theorem k_WP_arms_59 (x : Int32) (p : Nat) (w : ab_W) (n : Nat) {ks : Nat} {lf : Int32} {K : KA} {nr nw np : Nat} (hx : x = nI p) (hp : p < np) (h0 : w 0 = oWP 59 ks lf) (hK : KK w 59 K nr nw np) : ab_C X l i_WP_arms [.ref 0, .int x] w n 0 0 (qI (nI (PnL K p).length) fun w' n' => n = n' ∧ Fr FG w w' ∧ KP w') := by
  obtain ⟨hC, hA, hP⟩ := hK
  obtain ⟨⟨pa, pb, k12⟩, -⟩ := id hP
  obtain ⟨w9, rfl⟩ := va_ex2 h0 k12
  refine ab_mqI cd_114 om_114 rfl (ab_sound ok_114 [] 80 ?_)
  (refine Exists.intro 0 ?_; refine ⟨0, _, Nat.zero_le _, Nat.zero_le _, c_isPen_y_59 _ p _ _ hx hp hA.1.2 rfl hC, ?_⟩; refine ab_q1_elim ?_)
  refine And.intro (fun _ => ?_) (fun h_9 => absurd h_9 ((by decide)))
  (refine Exists.intro 0 ?_; refine ⟨0, _, Nat.zero_le _, Nat.zero_le _, k_gather_59 _ p _ _ hx hp hA hC hP, ?_⟩; rintro _ w1 _ ⟨rfl, rfl, f1, hG⟩)
  have z0 : w1 0 = oWP 59 ks lf := f1.get rfl (by omega)
  have hkp := hG.kp
  obtain ⟨w1, rfl⟩ := va_ex2 z0 hG.1
  exact ⟨rfl, rfl, f1, hkp⟩
theorem k_WP_lobes_59 (x : Int32) (p : Nat) (w : ab_W) (n : Nat) {ks : Nat} {lf : Int32} {K : KA} {nr nw np : Nat} (hx : x = nI p) (hp : p < np) (h0 : w 0 = oWP 59 ks lf) (hK : KK w 59 K nr nw np) : ab_C X l i_WP_lobes [.ref 0, .int x] w n 0 0 (qL (lN (PnB K p)) fun w' n' => n = n' ∧ Fr FG w w' ∧ KP w') := by
  obtain ⟨hC, hA, hP⟩ := hK
  have hl : (PnL K p).length ≤ 5 := Nat.le_trans (flt_len _) (pn_ok hA hp).2
  obtain ⟨⟨pa, pb, k12⟩, -⟩ := id hP
  obtain ⟨w9, rfl⟩ := va_ex2 h0 k12
  refine ab_mqL cd_115 om_115 rfl rfl (ab_sound ok_115 [] 80 ?_)
  (refine Exists.intro 0 ?_; refine ⟨0, _, Nat.zero_le _, Nat.zero_le _, c_isPen_y_59 _ p _ _ hx hp hA.1.2 rfl hC, ?_⟩; refine ab_q1_elim ?_)
  refine And.intro (fun _ => ?_) (fun h_9 => absurd h_9 ((by decide)))
  (refine Exists.intro 0 ?_; refine ⟨0, _, Nat.zero_le _, Nat.zero_le _, k_gather_59 _ p _ _ hx hp hA hC hP, ?_⟩; rintro _ w1 _ ⟨rfl, rfl, f1, hG⟩)
  have z0 : w1 0 = oWP 59 ks lf := f1.get rfl (by omega)
  have hkp := hG.kp
  obtain ⟨g0, g1, g2, g3, f16, g4, g5⟩ := hG
  obtain ⟨w1, rfl⟩ := va_ex2 z0 g0
  (refine Exists.intro 0 ?_; refine ⟨0, _, Nat.zero_le _, Nat.zero_le _, c_lobeNumber (PnL K p).length (PnF K p) _ _ hl (fun k => pnW_bd hA hp _) rfl g4 g5, ?_⟩; refine ab_q1_elim ?_)
  exact ⟨rfl, rfl, f1, hkp⟩
theorem k_WP_pen_n_59 (x : Int32) (w : ab_W) (n : Nat) {ks : Nat} {lf : Int32} {K : KA} {nr nw np : Nat} (hx : x < 0 ∨ nI np ≤ x) (h0 : w 0 = oWP 59 ks lf) (hC : CKit w 59 K nr nw np) : ab_C X l i_WP_closes [.ref 0, .int x] w n 0 0 (ab_q1 (some (.long (-lN 1))) w n) ∧ ab_C X l i_WP_lobes [.ref 0, .int x] w n 0 0 (ab_q1 (some (.long (-lN 1))) w n) ∧ ab_C X l i_WP_arms [.ref 0, .int x] w n 0 0 (ab_q1 (some (.int (-nI 1))) w n) := by
  obtain ⟨w, rfl⟩ := va_ex h0
  refine ⟨?_, ?_, ?_⟩
  · refine ab_metL cd_112 om_112 rfl rfl (ab_sound ok_112 [] 80 ?_)
    (refine Exists.intro 0 ?_; refine ⟨0, _, Nat.zero_le _, Nat.zero_le _, c_isPen_n_59 _ _ _ hx rfl hC, ?_⟩; refine ab_q1_elim ?_)
    refine And.intro (fun h_9 => absurd (rfl) h_9) (fun _ => ?_)
    exact ⟨rfl, rfl, rfl⟩
  · refine ab_metL cd_115 om_115 rfl rfl (ab_sound ok_115 [] 80 ?_)
    (refine Exists.intro 0 ?_; refine ⟨0, _, Nat.zero_le _, Nat.zero_le _, c_isPen_n_59 _ _ _ hx rfl hC, ?_⟩; refine ab_q1_elim ?_)
    refine And.intro (fun h_9 => absurd (rfl) h_9) (fun _ => ?_)
    exact ⟨rfl, rfl, rfl⟩
  · refine ab_metI cd_114 om_114 rfl (ab_sound ok_114 [] 80 ?_)
    (refine Exists.intro 0 ?_; refine ⟨0, _, Nat.zero_le _, Nat.zero_le _, c_isPen_n_59 _ _ _ hx rfl hC, ?_⟩; refine ab_q1_elim ?_)
    refine And.intro (fun h_9 => absurd (rfl) h_9) (fun _ => ?_)
    exact ⟨rfl, rfl, rfl⟩
theorem k_WP_arm_59 (x y z : Int32) (p i : Nat) (e : Bool) (w : ab_W) (n : Nat) {mc ms : Nat} {ks : Nat} {lf : Int32} {K : KA} {nr nw np : Nat} (hx : x = nI p) (hy : y = nI i) (hz : z = b01 e) (hp : p < np) (hi : i < (PnL K p).length) (h0 : w 0 = oWP 59 ks lf) (hK : KK w 59 K nr nw np) :
    ab_Ev X l i_WP_arm 0 (ab_en (ab_mx i_WP_arm) [.ref 0, .int x, .int y, .int z]) [] w n mc ms (qL (if e = true then Int64.ofInt (PnS K p (PnO K p i)) else PnF K p i) fun w' n' => n = n' ∧ Fr FG w w' ∧ KP w') := by
  obtain ⟨hC, hA, hP⟩ := hK
  have hl : (PnL K p).length ≤ 5 := Nat.le_trans (flt_len _) (pn_ok hA hp).2
  subst hy
  have z0 : ¬ z < 0 := by rw [hz]; cases e <;> decide
  have z1 : z ≤ nI 1 := by rw [hz]; cases e <;> decide
  obtain ⟨⟨pa, pb, k12⟩, -⟩ := id hP
  obtain ⟨w9, rfl⟩ := va_ex2 h0 k12
  refine ab_sound ok_144 [] 80 ?_
  (refine Exists.intro 0 ?_; refine ⟨0, _, Nat.zero_le _, Nat.zero_le _, c_isPen_y_59 _ p _ _ hx hp hA.1.2 rfl hC, ?_⟩; refine ab_q1_elim ?_)
  refine And.intro (fun h_9 => absurd h_9 ((by decide))) (fun _ => ?_)
  refine And.intro (fun h_9 => absurd h_9 (z0)) (fun _ => ?_)
  refine And.intro (fun _ => ?_) (fun h_9 => absurd (z1) h_9)
  (refine Exists.intro 0 ?_; refine ⟨0, _, Nat.zero_le _, Nat.zero_le _, k_gather_59 _ p _ _ hx hp hA hC hP, ?_⟩; rintro _ w1 _ ⟨rfl, rfl, f1, hG⟩)
  have y0 : w1 0 = oWP 59 ks lf := f1.get rfl (by omega)
  have hkp := hG.kp
  obtain ⟨g0, g1, g2, ⟨f15, g3, g6⟩, f16, g4, g5⟩ := hG
  obtain ⟨w1, rfl⟩ := va_ex4 y0 g0 g3 g4
  refine And.intro (fun h_9 => absurd h_9 (nI_pos (by omega))) (fun _ => ?_)
  refine And.intro (fun _ => ?_) (fun h_9 => absurd (nI_lt hi (by omega)) h_9)
  cases e with
  | false =>
    refine And.intro (fun h_9 => absurd (hz) h_9) (fun _ => ?_)
    refine And.intro (vp_in_nI (by omega) (by omega)) ?_
    rw [nI_clamp (by omega), g5 i hi]
    exact ⟨rfl, rfl, f1, hkp⟩
  | true =>
    refine And.intro (fun _ => ?_) (fun h_9 => absurd h_9 ((by rw [hz]; decide)))
    refine And.intro (vp_in_nI (by omega) (by omega)) ?_
    rw [nI_clamp (by omega), g6 i hi]
    exact ⟨rfl, rfl, f1, hkp⟩
theorem k_WP_arm_n_59 (x y z : Int32) (w : ab_W) (n : Nat) {ks : Nat} {lf : Int32} {K : KA} {nr nw np : Nat} (hb : (x < 0 ∨ nI np ≤ x) ∨ (z < 0 ∨ nI 2 ≤ z) ∨ ∃ p, p < np ∧ x = nI p ∧ (y < 0 ∨ nI (PnL K p).length ≤ y)) (h0 : w 0 = oWP 59 ks lf) (hK : KK w 59 K nr nw np) :
    ab_Ev X l i_WP_arm 0 (ab_en (ab_mx i_WP_arm) [.ref 0, .int x, .int y, .int z]) [] w n 1 6 (qT fun w' n' => n = n' ∧ Fr FG w w' ∧ KP w') := by
  obtain ⟨hC, hA, hP⟩ := hK
  obtain ⟨⟨pa, pb, k12⟩, -⟩ := id hP
  have hfin : qT (fun w' n' => n = n' ∧ Fr FG w w' ∧ KP w') (some (.retAddr 7777)) w n := ⟨rfl, rfl, Fr.refl, hP⟩
  obtain ⟨w9, rfl⟩ := va_ex2 h0 k12
  refine ab_sound ok_144 [] 80 ?_
  rcases in_or np (by have := hA.1.2; omega) x with ⟨p, hp, hx⟩ | hx
  · (refine Exists.intro 0 ?_; refine ⟨0, _, Nat.zero_le _, Nat.zero_le _, c_isPen_y_59 _ p _ _ hx hp hA.1.2 rfl hC, ?_⟩; refine ab_q1_elim ?_)
    refine And.intro (fun h_9 => absurd h_9 ((by decide))) (fun _ => ?_)
    refine And.intro (fun e1 => ?_) (fun e1 => ?_)
    · exact ⟨⟨by omega, by omega⟩, hfin⟩
    refine And.intro (fun e2 => ?_) (fun e2 => ?_)
    · have hl : (PnL K p).length ≤ 5 := Nat.le_trans (flt_len _) (pn_ok hA hp).2
      have hy : y < 0 ∨ nI (PnL K p).length ≤ y := by
        rcases hb with hb | hb | ⟨p2, hp2, hx2, hb⟩
        · exact absurd hx (n_out (by have := hA.1.2; omega) hp hb)
        · exfalso
          have h9 := hb.resolve_left e1
          rw [i32_le] at h9 e2
          have q1 := nI_toInt (show 1 < 2 ^ 31 by omega)
          have q2 := nI_toInt (show 2 < 2 ^ 31 by omega)
          omega
        · have h8 := hA.1.2
          have := (nI_eq (by omega) (by omega)).mp (hx.symm.trans hx2)
          subst this
          exact hb
      (refine Exists.intro 0 ?_; refine ⟨0, _, Nat.zero_le _, Nat.zero_le _, k_gather_59 _ p _ _ hx hp hA hC hP, ?_⟩; rintro _ w1 _ ⟨rfl, rfl, f1, hG⟩)
      have y0 : w1 0 = oWP 59 ks lf := f1.get rfl (by omega)
      have hkp := hG.kp
      have hfin2 : qT (fun w' n' => n = n' ∧ Fr FG (va_up (va_up w9 12 (oPA pa pb)) 0 (oWP 59 ks lf)) w' ∧ KP w') (some (.retAddr 7777)) w1 n := ⟨rfl, rfl, f1, hkp⟩
      obtain ⟨w1, rfl⟩ := va_ex2 y0 hG.1
      refine And.intro (fun e3 => ?_) (fun e3 => ?_)
      · exact ⟨⟨by omega, by omega⟩, hfin2⟩
      refine And.intro (fun h_9 => absurd h_9 ((by have := hy.resolve_left e3; rw [i32_le] at this; rw [i32_lt]; omega))) (fun _ => ?_)
      exact ⟨⟨by omega, by omega⟩, hfin2⟩
    · exact ⟨⟨by omega, by omega⟩, hfin⟩
  · (refine Exists.intro 0 ?_; refine ⟨0, _, Nat.zero_le _, Nat.zero_le _, c_isPen_n_59 _ _ _ hx rfl hC, ?_⟩; refine ab_q1_elim ?_)
    refine And.intro (fun _ => ?_) (fun h_9 => absurd (rfl) h_9)
    exact ⟨⟨by omega, by omega⟩, hfin⟩
theorem k_WP_spin_59 (x y : Int32) (v : Nat) (e : Bool) (w : ab_W) (n : Nat) {mc ms : Nat} {ks : Nat} {lf : Int32} {K : KA} {nr nw np : Nat} (hx : x = nI v) (hy : y = b01 e) (hv : v < nw) (h0 : w 0 = oWP 59 ks lf) (hK : KK w 59 K nr nw np) :
    ab_Ev X l i_WP_spin 0 (ab_en (ab_mx i_WP_spin) [.ref 0, .int x, .int y]) [] w n mc ms (ab_q1 (some (.int (if e = true then kSl K v else kSu K v))) w n) := by
  obtain ⟨⟨⟨nm, hk⟩, -, -, -, -, ⟨f11, h11, g11⟩, ⟨f12, h12, g12⟩, -⟩, hA, hP⟩ := hK
  have hw := hA.1.1
  subst hx
  have z0 : ¬ y < 0 := by rw [hy]; cases e <;> decide
  have z1 : y ≤ nI 1 := by rw [hy]; cases e <;> decide
  obtain ⟨w, rfl⟩ := va_ex4 h0 hk h11 h12
  refine ab_sound ok_143 [] 80 ?_
  refine And.intro (fun h_9 => absurd h_9 (nI_pos (by omega))) (fun _ => ?_)
  refine And.intro (fun h_9 => absurd h_9 (nI_ge hv (by omega))) (fun _ => ?_)
  refine And.intro (fun h_9 => absurd h_9 (z0)) (fun _ => ?_)
  refine And.intro (fun _ => ?_) (fun h_9 => absurd (z1) h_9)
  cases e with
  | false =>
    refine And.intro (fun h_9 => absurd (hy) h_9) (fun _ => ?_)
    refine And.intro (vp_in_nI (by omega) (by omega)) ?_
    rw [nI_clamp (by omega), g11 v hv]
    exact ⟨rfl, rfl, rfl⟩
  | true =>
    refine And.intro (fun _ => ?_) (fun h_9 => absurd h_9 ((by rw [hy]; decide)))
    refine And.intro (vp_in_nI (by omega) (by omega)) ?_
    rw [nI_clamp (by omega), g12 v hv]
    exact ⟨rfl, rfl, rfl⟩
theorem k_WP_spin_n_59 (x y : Int32) (w : ab_W) (n : Nat) {ks : Nat} {lf : Int32} {K : KA} {nr nw np : Nat} (hb : (x < 0 ∨ nI nw ≤ x) ∨ (y < 0 ∨ nI 2 ≤ y)) (h0 : w 0 = oWP 59 ks lf) (hK : KK w 59 K nr nw np) :
    ab_Ev X l i_WP_spin 0 (ab_en (ab_mx i_WP_spin) [.ref 0, .int x, .int y]) [] w n 1 6 (ab_q1 (some (.retAddr 7777)) w n) := by
  obtain ⟨⟨⟨nm, hk⟩, -⟩, -⟩ := hK
  obtain ⟨w, rfl⟩ := va_ex2 h0 hk
  refine ab_sound ok_143 [] 80 ?_
  refine And.intro (fun e1 => ?_) (fun e1 => ?_)
  · exact ⟨⟨by omega, by omega⟩, rfl, rfl, rfl⟩
  refine And.intro (fun e2 => ?_) (fun e2 => ?_)
  · exact ⟨⟨by omega, by omega⟩, rfl, rfl, rfl⟩
  refine And.intro (fun e3 => ?_) (fun e3 => ?_)
  · exact ⟨⟨by omega, by omega⟩, rfl, rfl, rfl⟩
  have hq : ¬ y ≤ nI 1 := fun z => by
    have h9 := (hb.resolve_left (fun q => q.elim e1 e2)).resolve_left e3
    rw [i32_le] at h9 z
    have q1 := nI_toInt (show 1 < 2 ^ 31 by omega)
    have q2 := nI_toInt (show 2 < 2 ^ 31 by omega)
    omega
  refine And.intro (fun h_9 => absurd h_9 (hq)) (fun _ => ?_)
  exact ⟨⟨by omega, by omega⟩, rfl, rfl, rfl⟩
end PENAPI
