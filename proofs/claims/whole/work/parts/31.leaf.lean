section LEAF
variable {X : ab_X} {l : Launch}
theorem ab_ev_of {y pc : Nat} {ls ls' : ab_L} {st st' : List Value} {w w' : ab_W} {n bc bs : Nat} {Q : ab_Q} (h : ab_Ev X l y pc ls st w n bc bs Q) (e1 : ls' = ls) (e2 : st' = st) (e3 : w' = w) : ab_Ev X l y pc ls' st' w' n bc bs Q := by
  subst e1 e2 e3
  exact h
theorem c_Mod_isIn (v a b : Int32) (w : ab_W) (n : Nat) : ab_C X l i_Mod_isIn [.int v, .int a, .int b] w n 0 0 (ab_q1 (some (.int (if a ≤ v ∧ v ≤ b then 1 else 0))) w n) := by
  refine ab_metI cd_175 om_175 rfl (ab_sound ok_175 [] 50 ?_)
  refine And.intro (fun h => ?_) (fun h => ?_)
  · exact ⟨rfl, by rw [if_neg (by rw [i32_lt] at h; rw [i32_le, i32_le]; omega)]; rfl, rfl, rfl⟩
  · refine And.intro (fun h2 => ?_) (fun h2 => ?_)
    · exact ⟨rfl, by rw [if_neg (by rw [i32_lt] at h2; rw [i32_le, i32_le]; omega)]; rfl, rfl, rfl⟩
    · exact ⟨rfl, by rw [if_pos (by rw [i32_lt] at h h2; rw [i32_le, i32_le]; omega)]; rfl, rfl, rfl⟩
/-- zeros below i -/
def zb (i : Nat) (f : Nat → Int64) : Nat → Int64 := fun j => if j < i then 0 else f j
theorem zb_0 (f : Nat → Int64) : zb 0 f = f := by funext j; simp [zb]
theorem zb_s (i : Nat) (f : Nat → Int64) : vp_updL (zb i f) i 0 = zb (i + 1) f := by
  funext j
  simp only [vp_updL, zb]
  split
  · rw [if_pos (by omega)]
  · by_cases h : j < i
    · rw [if_pos h, if_pos (by omega)]
    · rw [if_neg h, if_neg (by omega)]
theorem c_Mod_clear (w : ab_W) (n : Nat) {s : Nat → Int32} {wd tn : Int64} {f : Nat → Int64} (h0 : w 90 = oMod s wd tn) (h2 : w 114 = aJ 60 f) : ab_C X l i_Mod_clear [.ref 90] w n 0 0 (ab_q1 none (va_up w 114 (aJ 60 (zb 60 f))) n) := by
  obtain ⟨w, rfl⟩ := va_ex2 h2 h0
  refine ab_metV cd_200 om_200 rfl rfl (ab_sound ok_200 [2] 50 ?_)
  have loop : ∀ i, i ≤ 60 → ab_Ev X l i_Mod_clear 2 [some (.ref 90), some (.int (nI i))] [] (va_up (va_up w 90 (oMod s wd tn)) 114 (aJ 60 (zb i f))) n 0 0 (ab_q1 none (va_up (va_up (va_up w 90 (oMod s wd tn)) 114 (aJ 60 f)) 114 (aJ 60 (zb 60 f))) n) := by
    refine ab_up 60 ?_ (fun i hi ih => ?_)
    · refine ab_sound ok_200 [2] 50 ?_
      refine And.intro (fun _ => ?_) (fun h_9 => absurd (nI_le (Nat.le_refl _) (by omega)) h_9)
      exact ⟨rfl, by rw [va_uu], rfl⟩
    · refine ab_sound ok_200 [2] 50 ?_
      refine And.intro (fun h_9 => absurd h_9 (nI_ge hi (by omega))) (fun _ => ?_)
      refine And.intro (vp_in_nI hi (by omega)) ?_
      exact ab_ev_of ih (by rw [← nI_add]; rfl) rfl (by rw [va_uu, nI_clamp (by omega)]; exact congrArg (fun z => va_up _ 114 (aJ 60 z)) (zb_s i f))
  exact ab_ev_of (loop 0 (by omega)) rfl rfl (by rw [zb_0])
end LEAF
