/-! a part added, for the class -/
def mxT (M : Nat) (d : PD) : Nat := md d.2.2.1 M
def mxIx (M : Nat) (d : PD) (i : Nat) : Nat := md (if d.2.2.2.2.2 = true then (mxT M d : Int) - (i : Int) else (mxT M d : Int) + (i : Int)) M
def mxF (M : Nat) (d : PD) (k : Nat) : Nat := md (wyI d.2.2.2.2.1 (k : Int) + d.2.2.2.1) M
def mxG (M : Nat) (R : Nat → Nat → Nat → Int64) (d : PD) (k m : Nat) : (Nat → Int64) → (Nat → Int64) := gaF (mxIx M d) (fun i => Int64.ofInt d.2.1 * R d.1 (mxF M d k) i) m
def mxA (M : Nat) (R : Nat → Nat → Nat → Int64) (S : MS) (k : Nat) : Nat → (Nat → Int64) → (Nat → Int64)
  | 0, f => f
  | m + 1, f => mxG M R (S.2 m) k (phi M) (mxA M R S k m f)
def MxV (M : Nat) (R : Nat → Nat → Nat → Int64) (S : MS) (k i : Nat) : Int64 := redV M (mxA M R S k S.1 Z0) i
theorem e60_mx {M : Nat} (hM : 3 ≤ M ∧ M ≤ 60) {R : Nat → Nat → Nat → Int64} {S : MS} {k : Nat} {f g : Nat → Int64} (h : E60 f g) : ∀ m, E60 (mxA M R S k m f) (mxA M R S k m g)
  | 0 => h
  | m + 1 => e60_ga (e60_mx hM h m) _ (fun j _ => ⟨Nat.lt_of_lt_of_le (md_lt _ (by omega)) hM.2, rfl, rfl⟩)
section ADDPART
variable {X : ab_X} {l : Launch}
theorem k_addPart (x y : Int32) (j k M : Nat) (w : ab_W) (n : Nat) {S : MS} {r1 r2 v7 p7 : Int32} {N : Nat → Nat} {R : Nat → Nat → Nat → Int64} {kn ks : Nat} {lf : Int32} {f : Nat → Int64} (hx : x = nI j) (hy : y = nI k) (hj : j < S.1) (hk : k < M) (hM : 3 ≤ M ∧ M ≤ 60) (hS : S.1 ≤ 12) (hd : PDok N M (S.2 j)) (h0 : w 0 = oWP kn ks lf) (hC : CMx w S r1 r2) (h : KSh w n N R) (h17 : w 17 = oSums v7 p7) (h19 : w 19 = aJ 60 f) :
    ab_C X l i_WP_addPart [.ref 0, .int x, .int y] w n 0 0 (ab_q1 none (va_up w 19 (aJ 60 (mxG M R (S.2 j) k (phi M) f))) n) := by
  subst hx hy
  obtain ⟨d1, d2, d3, d4, d5⟩ := hd
  generalize hdd : S.2 j = d at *
  obtain ⟨aa, hA, -⟩ := h.is d1 (by omega)
  rw [d2] at hA
  have hp := phi_le M hM.2
  obtain ⟨h5, ⟨f6, h6, u6⟩, ⟨f7, h7, u7⟩, ⟨f8, h8, u8⟩, ⟨f9, h9, u9⟩, ⟨f10, h10, u10⟩, ⟨f11, h11, u11⟩⟩ := hC
  have u6 := u6 j hj
  have u7 := u7 j hj
  have u8 := u8 j hj
  have u9 := u9 j hj
  have u10 := u10 j hj
  have u11 := u11 j hj
  rw [hdd] at u6 u7 u8 u9 u10 u11
  have cs := k_sheetThatIs_y (X := X) (l := l) (nI d.1) d.1 w n rfl d1 (by omega) h0 h
  have hAg : ∀ c : va_E, ShIs (va_up w 19 c) (74 + 2 * d.1) M aa (R d.1) := fun c => hA.up (by omega)
  have q1 : wyV d.2.2.2.2.1 * nI k + Int32.ofInt d.2.2.2.1 = Int32.ofInt (wyI d.2.2.2.2.1 (k : Int) + d.2.2.2.1) := by rw [wy_mul, Int32.ofInt_add]
  have q2 : (Int32.ofInt (wyI d.2.2.2.2.1 (k : Int) + d.2.2.2.1)).toInt = wyI d.2.2.2.2.1 (k : Int) + d.2.2.2.1 := o32_i (by have := wyI_ab (b := d.2.2.2.2.1) (v := (k : Int)); omega)
  have q3 : (Int32.ofInt d.2.2.1).toInt = d.2.2.1 := o32_i (by omega)
  have q4 : (Int32.ofInt d.2.1).toInt64 = Int64.ofInt d.2.1 := by rw [i32_64, o32_i (by omega)]
  have hF : mxF M d k < M := md_lt _ (by omega)
  have hT : mxT M d < M := md_lt _ (by omega)
  obtain ⟨w, rfl⟩ : ∃ w0, w = va_up (va_up (va_up (va_up (va_up (va_up (va_up (va_up (va_up (va_up w0 19 (aJ 60 f)) 17 (oSums v7 p7)) 11 (aZ 12 f11)) 10 (aI 12 f10)) 9 (aI 12 f9)) 8 (aI 12 f8)) 7 (aI 12 f7)) 6 (aI 12 f6)) 5 (oMR r1 r2 (nI S.1))) 0 (oWP kn ks lf) := ⟨w, by rw [← va_self h19, ← va_self h17, ← va_self h11, ← va_self h10, ← va_self h9, ← va_self h8, ← va_self h7, ← va_self h6, ← va_self h5, ← va_self h0]⟩
  have loop : ∀ i, i ≤ phi M → ∀ x7 : Option Value, ab_Ev X l i_WP_addPart 70 [some (.ref 0), some (.int (nI j)), some (.int (nI k)), some (.ref (74 + 2 * d.1)), some (.int (nI (mxF M d k))), some (.int (nI (mxT M d))), some (.int (nI i)), x7] [] (va_up (va_up (va_up (va_up (va_up (va_up (va_up (va_up (va_up (va_up (va_up w 19 (aJ 60 f)) 17 (oSums v7 p7)) 11 (aZ 12 f11)) 10 (aI 12 f10)) 9 (aI 12 f9)) 8 (aI 12 f8)) 7 (aI 12 f7)) 6 (aI 12 f6)) 5 (oMR r1 r2 (nI S.1))) 0 (oWP kn ks lf)) 19 (aJ 60 (mxG M R d k i f))) n 0 0 (ab_q1 none (va_up (va_up (va_up (va_up (va_up (va_up (va_up (va_up (va_up (va_up (va_up w 19 (aJ 60 f)) 17 (oSums v7 p7)) 11 (aZ 12 f11)) 10 (aI 12 f10)) 9 (aI 12 f9)) 8 (aI 12 f8)) 7 (aI 12 f7)) 6 (aI 12 f6)) 5 (oMR r1 r2 (nI S.1))) 0 (oWP kn ks lf)) 19 (aJ 60 (mxG M R d k (phi M) f))) n) := by
    refine ab_up (phi M) ?_ (fun i hi ih => ?_)
    · intro x7
      refine ab_sound ok_125 [70] 80 ?_
      refine Exists.intro _ (Exists.intro _ (And.intro ((hAg _).1) (And.intro rfl ?_)))
      refine And.intro (fun _ => ?_) (fun h_9 => absurd (nI_le (Nat.le_refl _) (by omega)) h_9)
      exact ⟨rfl, rfl, rfl⟩
    · intro x7
      have hAi := hAg (aJ 60 (mxG M R d k i f))
      have hix : mxIx M d i < 60 := Nat.lt_of_lt_of_le (md_lt _ (by omega)) hM.2
      obtain ⟨fa, ha1, ha2⟩ := hAi.2.1
      have hki := kp_le hM hF
      have at104 : ∀ z : Int32, md z.toInt M = mxIx M d i → ab_Ev X l i_WP_addPart 104 [some (.ref 0), some (.int (nI j)), some (.int (nI k)), some (.ref (74 + 2 * d.1)), some (.int (nI (mxF M d k))), some (.int (nI (mxT M d))), some (.int (nI i)), x7] [.int z] (va_up (va_up (va_up (va_up (va_up (va_up (va_up (va_up (va_up (va_up (va_up w 19 (aJ 60 f)) 17 (oSums v7 p7)) 11 (aZ 12 f11)) 10 (aI 12 f10)) 9 (aI 12 f9)) 8 (aI 12 f8)) 7 (aI 12 f7)) 6 (aI 12 f6)) 5 (oMR r1 r2 (nI S.1))) 0 (oWP kn ks lf)) 19 (aJ 60 (mxG M R d k i f))) n 0 0 (ab_q1 none (va_up (va_up (va_up (va_up (va_up (va_up (va_up (va_up (va_up (va_up (va_up w 19 (aJ 60 f)) 17 (oSums v7 p7)) 11 (aZ 12 f11)) 10 (aI 12 f10)) 9 (aI 12 f9)) 8 (aI 12 f8)) 7 (aI 12 f7)) 6 (aI 12 f6)) 5 (oMR r1 r2 (nI S.1))) 0 (oWP kn ks lf)) 19 (aJ 60 (mxG M R d k (phi M) f))) n) := by
        intro z hz
        refine ab_sound ok_125 [70] 80 ?_
        refine Exists.intro _ (Exists.intro _ (And.intro (hAi.1) (And.intro rfl ?_)))
        (refine Exists.intro 0 ?_; refine ⟨0, _, Nat.zero_le _, Nat.zero_le _, c_WP_wrap _ M (by omega) (by omega) _ _, ?_⟩; refine ab_q1_elim ?_)
        refine And.intro (vp_in_nI (show j < 12 by omega) (by omega)) ?_
        rw [nI_clamp (by omega), u7]
        refine And.intro (⟨_, hAi.1⟩) ?_
        (refine Exists.intro 0 ?_; refine ⟨0, _, Nat.zero_le _, Nat.zero_le _, c_Sheet_number _ _ (74 + 2 * d.1) aa 3480 (phi M) (mxF M d k) i _ _ rfl rfl (by omega) (by omega) hAi.1 ha1, ?_⟩; refine ab_q1_elim ?_)
        rw [ha2 _ _ hF hi, q4, hz]
        (refine Exists.intro 0 ?_; refine ⟨0, _, Nat.zero_le _, Nat.zero_le _, c_Sums_add _ (mxIx M d i) _ _ _ rfl hix rfl rfl, ?_⟩; refine ab_q1_elim ?_)
        refine ab_ev_of (ih (some (.int z))) (by rw [nI_s i]; rfl) rfl ?_
        rw [va_uu]
        rfl
      refine ab_sound ok_125 [70, 104] 80 ?_
      refine Exists.intro _ (Exists.intro _ (And.intro (hAi.1) (And.intro rfl ?_)))
      refine And.intro (fun h_9 => absurd h_9 (nI_ge hi (by omega))) (fun _ => ?_)
      refine And.intro (vp_in_nI (show j < 12 by omega) (by omega)) ?_
      rw [nI_clamp (by omega), u11]
      cases hm : d.2.2.2.2.2
      · refine And.intro (fun _ => ?_) (fun h_9 => absurd (rfl) h_9)
        refine at104 _ ?_
        rw [nI_add, nI_toInt (by omega)]
        unfold mxIx
        rw [if_neg (by rw [hm]; decide)]
        congr 1
      · refine And.intro (fun h_9 => absurd h_9 ((by decide))) (fun _ => ?_)
        refine at104 _ ?_
        unfold mxIx
        rw [if_pos hm, Int32.toInt_sub, nI_toInt (by omega), nI_toInt (by omega), Int.bmod_eq_of_le_mul_two (by omega) (by omega)]
  refine ab_metV cd_125 om_125 rfl rfl (ab_sound ok_125 [70] 80 ?_)
  refine And.intro (vp_in_nI (show j < 12 by omega) (by omega)) ?_
  rw [nI_clamp (by omega), u6]
  (refine Exists.intro 0 ?_; refine ⟨0, _, Nat.zero_le _, Nat.zero_le _, cs, ?_⟩; refine ab_q1_elim ?_)
  refine And.intro (vp_in_nI (show j < 12 by omega) (by omega)) ?_
  rw [nI_clamp (by omega), u10]
  refine And.intro (vp_in_nI (show j < 12 by omega) (by omega)) ?_
  rw [nI_clamp (by omega), u9]
  refine Exists.intro _ (Exists.intro _ (And.intro (hA.1) (And.intro rfl ?_)))
  (refine Exists.intro 0 ?_; refine ⟨0, _, Nat.zero_le _, Nat.zero_le _, c_WP_wrap _ M (by omega) (by omega) _ _, ?_⟩; refine ab_q1_elim ?_)
  rw [q1, q2]
  refine And.intro (vp_in_nI (show j < 12 by omega) (by omega)) ?_
  rw [nI_clamp (by omega), u8]
  refine Exists.intro _ (Exists.intro _ (And.intro (hA.1) (And.intro rfl ?_)))
  (refine Exists.intro 0 ?_; refine ⟨0, _, Nat.zero_le _, Nat.zero_le _, c_WP_wrap _ M (by omega) (by omega) _ _, ?_⟩; refine ab_q1_elim ?_)
  rw [q3]
  refine ab_ev_of (loop 0 (by omega) none) rfl rfl ?_
  exact va_self h19
end ADDPART
