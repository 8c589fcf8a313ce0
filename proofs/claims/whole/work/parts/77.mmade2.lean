section MMADE
variable {X : ab_X} {l : Launch}
def mQZ (w : ab_W) (n : Nat) (s : Nat → Int32) (wd tn : Int64) (N : Nat → Nat) (R : Nat → Nat → Nat → Int64) (s' : Nat → Int32) : ab_W → Nat → Prop := fun w' n' => n = n' ∧ Fr (fun k => FM k ∨ (130 ≤ k ∧ k ≤ 133)) w w' ∧ Fr (fun k => GT k ∨ k = 65) s s' ∧ s' 0 = nI 0 ∧ s' 2 = nI 0 ∧ MB w' s' wd tn N R
theorem k_Mod_made_bad (x y : Int32) (L : Nat) (w : ab_W) (n : Nat) {s : Nat → Int32} {wd tn : Int64} {N : Nat → Nat} {R : Nat → Nat → Nat → Int64} {tb : Nat → Int32} (hL : L ≤ 640) (hn : ¬ bxOk y L tb) (h : MB w s wd tn N R) (hs : s 2 = nI L) (h91 : w 91 = aI 640 tb) :
    ab_C X l i_Mod_made [.ref 90, .int x, .int y] w n 0 0 (qI (-nI 2) (mQT w n s wd tn N R)) := by
  have hB0 : MB (va_up w 90 (oMod (upd (upd s 0 (nI 0)) 2 (nI 0)) wd tn)) (upd (upd s 0 (nI 0)) 2 (nI 0)) wd tn N R := h.setk (G := fun k => k = 0 ∨ k = 2) ((Fr.refl.us (by omega)).us (by omega)) (by omega) (by omega)
  have fin : mQT w n s wd tn N R (va_up w 90 (oMod (upd (upd s 0 (nI 0)) 2 (nI 0)) wd tn)) n := ⟨rfl, Fr.refl.up (by omega), _, (Fr.refl.us (by omega)).us (by omega), (upd_ne (by omega)).trans upd_at, upd_at, hB0⟩
  have h91b : (va_up w 90 (oMod (upd (upd s 0 (nI 0)) 2 (nI 0)) wd tn)) 91 = aI 640 tb := (va_un (by omega)).trans h91
  have q1 := nI_toInt (show 1 < 2 ^ 31 by omega)
  have q12 := nI_toInt (show 12 < 2 ^ 31 by omega)
  generalize hW : va_up w 90 (oMod (upd (upd s 0 (nI 0)) 2 (nI 0)) wd tn) = W at *
  have main : ab_Ev X l i_Mod_made 10 [some (.ref 90), some (.int x), some (.int y), some (.int (nI L)), none, none, none, none, none, none, none, none, none, none, none, none, none, none, none] [] W n 0 0 (qI (-nI 2) (mQT w n s wd tn N R)) := by
    refine ab_sound ok_241 [38] 80 ?_
    (refine Exists.intro 0 ?_; refine ⟨0, _, Nat.zero_le _, Nat.zero_le _, c_Mod_isIn _ _ _ _ _, ?_⟩; refine ab_q1_elim ?_)
    by_cases hy : nI 1 ≤ y ∧ y ≤ nI 12
    · rw [isIn_y hy]
      refine And.intro (fun h_9 => absurd h_9 ((by decide))) (fun _ => ?_)
      have hy9 : ∃ R, 1 ≤ R ∧ R ≤ 12 ∧ y = nI R := by
        rw [i32_le, i32_le] at hy
        exact ⟨y.toInt.toNat, by omega, by omega, nI_of_toInt (by omega)⟩
      obtain ⟨Rn, r1, r2, rfl⟩ := hy9
      have hsI : (nI L - nI Rn).toInt = (L : Int) - Rn := pk_sub_toInt (by omega) (by omega)
      (refine Exists.intro 0 ?_; refine ⟨0, _, Nat.zero_le _, Nat.zero_le _, c_Mod_isIn _ _ _ _ _, ?_⟩; refine ab_q1_elim ?_)
      by_cases hz : nI 1 ≤ nI L - nI Rn ∧ nI L - nI Rn ≤ nI 12
      · rw [isIn_y hz]
        refine And.intro (fun _ => ?_) (fun h_9 => absurd h_9 ((by decide)))
        rw [i32_le, i32_le, hsI] at hz
        have hbad : ∃ i, i < L ∧ ¬ (nI 3 ≤ tb i ∧ tb i ≤ nI 200) := Classical.byContradiction (fun z => hn ⟨Rn, L - Rn, rfl, ⟨r1, r2⟩, by omega, by omega, fun i hi => Classical.byContradiction (fun q => z ⟨i, hi, q⟩)⟩)
        obtain ⟨k, hk, hkb⟩ := hbad
        have loop : ∀ i, i ≤ k → ab_Ev X l i_Mod_made 38 [some (.ref 90), some (.int x), some (.int (nI Rn)), some (.int (nI L)), some (.int (nI i)), none, none, none, none, none, none, none, none, none, none, none, none, none, none] [] W n 0 0 (qI (-nI 2) (mQT w n s wd tn N R)) := by
          have h90 := hB0.1
          obtain ⟨W, rfl⟩ := va_ex2 h90 h91b
          refine ab_up k ?_ (fun i hi ih => ?_)
          · refine ab_sound ok_241 [38] 80 ?_
            refine And.intro (fun h_9 => absurd h_9 (nI_ge hk (by omega))) (fun _ => ?_)
            refine And.intro (vp_in_nI (by omega) (by omega)) ?_
            rw [nI_clamp (by omega)]
            (refine Exists.intro 0 ?_; refine ⟨0, _, Nat.zero_le _, Nat.zero_le _, c_Mod_isIn _ _ _ _ _, ?_⟩; refine ab_q1_elim ?_)
            rw [isIn_n hkb]
            refine And.intro (fun h_9 => absurd (rfl) h_9) (fun _ => ?_)
            exact ⟨rfl, fin⟩
          · refine ab_sound ok_241 [38] 80 ?_
            refine And.intro (fun h_9 => absurd h_9 (nI_ge (show i < L by omega) (by omega))) (fun _ => ?_)
            refine And.intro (vp_in_nI (by omega) (by omega)) ?_
            rw [nI_clamp (by omega)]
            (refine Exists.intro 0 ?_; refine ⟨0, _, Nat.zero_le _, Nat.zero_le _, c_Mod_isIn _ _ _ _ _, ?_⟩; refine ab_q1_elim ?_)
            by_cases hi9 : nI 3 ≤ tb i ∧ tb i ≤ nI 200
            · rw [isIn_y hi9]
              refine And.intro (fun _ => ?_) (fun h_9 => absurd h_9 ((by decide)))
              exact ab_ev_of ih (by rw [nI_s i]; rfl) rfl rfl
            · rw [isIn_n hi9]
              refine And.intro (fun h_9 => absurd (rfl) h_9) (fun _ => ?_)
              exact ⟨rfl, fin⟩
        exact ab_ev_of (loop 0 (by omega)) rfl rfl rfl
      · rw [isIn_n hz]
        refine And.intro (fun h_9 => absurd (rfl) h_9) (fun _ => ?_)
        exact ⟨rfl, fin⟩
    · rw [isIn_n hy]
      refine And.intro (fun _ => ?_) (fun h_9 => absurd (rfl) h_9)
      exact ⟨rfl, fin⟩
  obtain ⟨h0, -⟩ := h
  obtain ⟨w9, rfl⟩ := va_ex h0
  refine ab_mqI cd_241 om_241 rfl (ab_sound ok_241 [10] 80 ?_)
  (refine Exists.intro 0 ?_; refine ⟨0, _, Nat.zero_le _, Nat.zero_le _, c_Mod_take _ _ (s := upd s 0 (nI 0)) rfl, ?_⟩; refine ab_q1_elim ?_)
  subst hW
  refine ab_ev_of main ?_ rfl ?_
  · show [_, _, _, some (Value.int (s 2)), _, _, _, _, _, _, _, _, _, _, _, _, _, _, _] = _
    rw [hs]
  · rw [va_uu]
end MMADE
