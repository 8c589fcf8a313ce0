/-! madeAt() of the model, count(), fault() -/
def cnV (x : Int32) (nr nw np sh : Nat) (L : Int32) : Int32 := if x = nI 0 then nI nr else if x = nI 1 then nI nw else if x = nI 2 then nI np else if x = nI 3 then nI sh else if x = nI 4 then L else -nI 1
def isN (N : Nat → Nat) (t : Nat) : Bool := decide (N t ≠ 0)
section SMALL
variable {X : ab_X} {l : Launch}
theorem k_Mod_madeAt (x y : Int32) (i m : Nat) (w : ab_W) (n : Nat) {s : Nat → Int32} {wd tn : Int64} {a1 a2 a3 a4 : Nat → Int32} (hx : x = nI i) (hi : i < m) (hm : m ≤ 40) (hy : ¬ (y < 0 ∨ nI 4 ≤ y)) (h90 : w 90 = oMod s wd tn) (hs : s 65 = nI m) (h130 : w 130 = aI 40 a1) (h131 : w 131 = aI 40 a2) (h132 : w 132 = aI 40 a3) (h133 : w 133 = aI 40 a4) :
    ab_C X l i_Mod_madeAt [.ref 90, .int x, .int y] w n 0 0 (ab_q1 (some (.int (mdV y (a1 i) (a2 i) (a3 i) (a4 i)))) (va_up w 90 (oMod (upd s 0 (nI 0)) wd tn)) n) := by
  subst hx
  have y4 : nI 0 ≤ y ∧ y ≤ nI 3 := by
    have q0 := nI_toInt (show 0 < 2 ^ 31 by omega)
    have q3 := nI_toInt (show 3 < 2 ^ 31 by omega)
    have q4 := nI_toInt (show 4 < 2 ^ 31 by omega)
    have z0 : (0 : Int32).toInt = 0 := rfl
    rw [not_or, i32_lt, i32_le] at hy
    rw [i32_le, i32_le]
    omega
  obtain ⟨w, rfl⟩ := va_ex5 h90 h130 h131 h132 h133
  refine ab_metI cd_242 om_242 rfl (ab_sound ok_242 [] 80 ?_)
  refine And.intro (fun h_9 => absurd h_9 (nI_pos (by omega))) (fun _ => ?_)
  refine And.intro (fun h_9 => absurd h_9 ((by show ¬ s 65 ≤ nI i; rw [hs]; exact nI_ge hi (by omega)))) (fun _ => ?_)
  (refine Exists.intro 0 ?_; refine ⟨0, _, Nat.zero_le _, Nat.zero_le _, c_Mod_isIn _ _ _ _ _, ?_⟩; refine ab_q1_elim ?_)
  rw [if_pos y4]
  refine And.intro (fun _ => ?_) (fun h_9 => absurd h_9 ((by decide)))
  unfold mdV
  refine And.intro (fun e0 => ?_) (fun e0 => ?_)
  · have e0 : ¬ y = nI 0 := e0
    rw [if_neg e0]
    refine And.intro (fun e1 => ?_) (fun e1 => ?_)
    · rw [if_neg e1]
      refine And.intro (fun e2 => ?_) (fun e2 => ?_)
      · rw [if_neg e2]
        refine And.intro (vp_in_nI (by omega) (by omega)) ?_
        rw [nI_clamp (by omega)]
        exact ⟨rfl, rfl, rfl⟩
      · rw [if_pos e2]
        refine And.intro (vp_in_nI (by omega) (by omega)) ?_
        rw [nI_clamp (by omega)]
        exact ⟨rfl, rfl, rfl⟩
    · rw [if_pos e1]
      refine And.intro (vp_in_nI (by omega) (by omega)) ?_
      rw [nI_clamp (by omega)]
      exact ⟨rfl, rfl, rfl⟩
  · have e0 : y = nI 0 := e0
    rw [if_pos e0]
    refine And.intro (vp_in_nI (by omega) (by omega)) ?_
    rw [nI_clamp (by omega)]
    exact ⟨rfl, rfl, rfl⟩
theorem k_Mod_madeAt_n (x y : Int32) (w : ab_W) (n : Nat) {s : Nat → Int32} {wd tn : Int64} (hb : x < 0 ∨ s 65 ≤ x ∨ y < 0 ∨ nI 4 ≤ y) (h90 : w 90 = oMod s wd tn) :
    ab_C X l i_Mod_madeAt [.ref 90, .int x, .int y] w n 0 0 (ab_q1 (some (.int (nI 0))) (va_up w 90 (oMod (upd s 0 (nI 1)) wd tn)) n) := by
  obtain ⟨w, rfl⟩ := va_ex h90
  have fin : ab_Ev X l i_Mod_madeAt 21 [some (.ref 90), some (.int x), some (.int y)] [] (va_up w 90 (oMod s wd tn)) n 0 0 (ab_q1 (some (.int (nI 0))) (va_up (va_up w 90 (oMod s wd tn)) 90 (oMod (upd s 0 (nI 1)) wd tn)) n) := by
    refine ab_sound ok_242 [] 80 ?_
    (refine Exists.intro 0 ?_; refine ⟨0, _, Nat.zero_le _, Nat.zero_le _, c_Mod_refuse _ _ rfl, ?_⟩; refine ab_q1_elim ?_)
    exact ⟨rfl, rfl, rfl⟩
  refine ab_metI cd_242 om_242 rfl (ab_sound ok_242 [21] 80 ?_)
  refine And.intro (fun e1 => ?_) (fun e1 => ?_)
  · exact fin
  refine And.intro (fun e2 => ?_) (fun e2 => ?_)
  · exact fin
  have e2 : ¬ s 65 ≤ x := e2
  have hq : ¬ (nI 0 ≤ y ∧ y ≤ nI 3) := fun z => by
    have h9 := (hb.resolve_left e1).resolve_left e2
    obtain ⟨z0, z1⟩ := z
    rw [i32_le] at z0 z1
    have q0 := nI_toInt (show 0 < 2 ^ 31 by omega)
    have q1 := nI_toInt (show 3 < 2 ^ 31 by omega)
    have q2 := nI_toInt (show 4 < 2 ^ 31 by omega)
    rcases h9 with h9 | h9
    · rw [i32_lt] at h9
      have : (0 : Int32).toInt = 0 := rfl
      omega
    · rw [i32_le] at h9
      omega
  (refine Exists.intro 0 ?_; refine ⟨0, _, Nat.zero_le _, Nat.zero_le _, c_Mod_isIn _ _ _ _ _, ?_⟩; refine ab_q1_elim ?_)
  rw [if_neg hq]
  refine And.intro (fun h_9 => absurd (rfl) h_9) (fun _ => ?_)
  exact fin
theorem k_WP_fault (w : ab_W) (n : Nat) {kn ks : Nat} {lf : Int32} (h0 : w 0 = oWP kn ks lf) : ab_C X l i_WP_fault [.ref 0] w n 0 0 (ab_q1 (some (.int lf)) w n) := by
  obtain ⟨w, rfl⟩ := va_ex h0
  refine ab_metI cd_111 om_111 rfl (ab_sound ok_111 [] 50 ?_)
  exact ⟨rfl, rfl, rfl⟩
theorem k_Mod_fault (w : ab_W) (n : Nat) {s : Nat → Int32} {wd tn : Int64} (h90 : w 90 = oMod s wd tn) : ab_C X l i_Mod_fault [.ref 90] w n 0 0 (ab_q1 (some (.int (s 10))) (va_up w 90 (oMod (upd s 0 (nI 0)) wd tn)) n) := by
  obtain ⟨w, rfl⟩ := va_ex h90
  refine ab_metI cd_182 om_182 rfl (ab_sound ok_182 [] 50 ?_)
  exact ⟨rfl, rfl, rfl⟩
theorem cnt_le8 (N : Nat → Nat) : ∀ k, cnt (isN N) k ≤ k
  | 0 => Nat.le_refl _
  | k + 1 => by
    have := cnt_le8 N k
    show cnt (isN N) k + _ ≤ k + 1
    split <;> omega
theorem k_sheetsThatAre (w : ab_W) (n : Nat) {N : Nat → Nat} {R : Nat → Nat → Nat → Int64} {kn ks : Nat} {lf : Int32} (h0 : w 0 = oWP kn ks lf) (hS : KSh w n N R) : ab_C X l i_WP_sheetsThatAre [.ref 0] w n 0 0 (ab_q1 (some (.int (nI (cnt (isN N) 8)))) w n) := by
  obtain ⟨w, rfl⟩ := va_ex h0
  refine ab_metI cd_142 om_142 rfl (ab_sound ok_142 [4] 80 ?_)
  have loop : ∀ t, t ≤ 8 → ab_Ev X l i_WP_sheetsThatAre 4 [some (.ref 0), some (.int (nI (cnt (isN N) t))), some (.int (nI t))] [] (va_up w 0 (oWP kn ks lf)) n 0 0 (ab_q1 (some (.int (nI (cnt (isN N) 8)))) (va_up w 0 (oWP kn ks lf)) n) := by
    refine ab_up 8 ?_ (fun t ht ih => ?_)
    · refine ab_sound ok_142 [4] 80 ?_
      refine And.intro (fun _ => ?_) (fun h_9 => absurd ((by decide)) h_9)
      exact ⟨rfl, rfl, rfl⟩
    · refine ab_sound ok_142 [4] 80 ?_
      refine And.intro (fun h_9 => absurd h_9 (nI_ge ht (by omega))) (fun _ => ?_)
      by_cases e : N t = 0
      · have ec : cnt (isN N) (t + 1) = cnt (isN N) t := by
          show cnt (isN N) t + (if isN N t = true then 1 else 0) = _
          rw [if_neg (by unfold isN; simp [e])]
          rfl
        rw [ec] at ih
        (refine Exists.intro 0 ?_; refine ⟨0, _, Nat.zero_le _, Nat.zero_le _, k_sheetThatIs_n _ _ _ (Or.inr ⟨t, ht, rfl, e⟩) h0 hS, ?_⟩; refine ab_q1_elim ?_)
        exact ab_ev_of ih (by rw [nI_s t]; rfl) rfl rfl
      · have ec : cnt (isN N) (t + 1) = cnt (isN N) t + 1 := by
          show cnt (isN N) t + (if isN N t = true then 1 else 0) = _
          rw [if_pos (by unfold isN; simp [e])]
        rw [ec] at ih
        (refine Exists.intro 0 ?_; refine ⟨0, _, Nat.zero_le _, Nat.zero_le _, k_sheetThatIs_y _ t _ _ rfl ht e h0 hS, ?_⟩; refine ab_q1_elim ?_)
        exact ab_ev_of ih (by rw [nI_s t, nI_s (cnt (isN N) t)]; rfl) rfl rfl
  exact ab_ev_of (loop 0 (by omega)) rfl rfl rfl
theorem k_WP_count_44 (x : Int32) (w : ab_W) (n : Nat) {N : Nat → Nat} {R : Nat → Nat → Nat → Int64} {ks : Nat} {lf L q1 q2 q3 q4 q5 : Int32} {K : KA} {nr nw np : Nat} (h0 : w 0 = oWP 44 ks lf) (hS : KSh w n N R) (hC : CKit w 44 K nr nw np) (h1 : w 1 = oTape L q1 q2 q3 q4 q5) :
    ab_C X l i_WP_count [.ref 0, .int x] w n 0 0 (ab_q1 (some (.int (cnV x nr nw np (cnt (isN N) 8) L))) w n) := by
  obtain ⟨⟨nm, hk⟩, -⟩ := hC
  obtain ⟨w, rfl⟩ := va_ex3 h0 hk h1
  refine ab_metI cd_141 om_141 rfl (ab_sound ok_141 [36, 44, 52, 60, 65, 73] 80 ?_)
  unfold cnV
  refine And.intro (fun e => ?_) (fun e => ?_)
  · rw [if_pos e]
    refine ab_sound ok_141 [] 80 ?_
    exact ⟨rfl, rfl, rfl⟩
  rw [if_neg e]
  refine And.intro (fun e => ?_) (fun e => ?_)
  · rw [if_pos e]
    refine ab_sound ok_141 [] 80 ?_
    exact ⟨rfl, rfl, rfl⟩
  rw [if_neg e]
  refine And.intro (fun e => ?_) (fun e => ?_)
  · rw [if_pos e]
    refine ab_sound ok_141 [] 80 ?_
    exact ⟨rfl, rfl, rfl⟩
  rw [if_neg e]
  refine And.intro (fun e => ?_) (fun e => ?_)
  · rw [if_pos e]
    refine ab_sound ok_141 [] 80 ?_
    (refine Exists.intro 0 ?_; refine ⟨0, _, Nat.zero_le _, Nat.zero_le _, k_sheetsThatAre _ _ rfl hS, ?_⟩; refine ab_q1_elim ?_)
    exact ⟨rfl, rfl, rfl⟩
  rw [if_neg e]
  refine And.intro (fun e => ?_) (fun e => ?_)
  · rw [if_pos e]
    refine ab_sound ok_141 [] 80 ?_
    exact ⟨rfl, rfl, rfl⟩
  rw [if_neg e]
  refine ab_sound ok_141 [] 80 ?_
  exact ⟨rfl, rfl, rfl⟩
theorem k_WP_count_59 (x : Int32) (w : ab_W) (n : Nat) {N : Nat → Nat} {R : Nat → Nat → Nat → Int64} {ks : Nat} {lf L q1 q2 q3 q4 q5 : Int32} {K : KA} {nr nw np : Nat} (h0 : w 0 = oWP 59 ks lf) (hS : KSh w n N R) (hC : CKit w 59 K nr nw np) (h1 : w 1 = oTape L q1 q2 q3 q4 q5) :
    ab_C X l i_WP_count [.ref 0, .int x] w n 0 0 (ab_q1 (some (.int (cnV x nr nw np (cnt (isN N) 8) L))) w n) := by
  obtain ⟨⟨nm, hk⟩, -⟩ := hC
  obtain ⟨w, rfl⟩ := va_ex3 h0 hk h1
  refine ab_metI cd_141 om_141 rfl (ab_sound ok_141 [36, 44, 52, 60, 65, 73] 80 ?_)
  unfold cnV
  refine And.intro (fun e => ?_) (fun e => ?_)
  · rw [if_pos e]
    refine ab_sound ok_141 [] 80 ?_
    exact ⟨rfl, rfl, rfl⟩
  rw [if_neg e]
  refine And.intro (fun e => ?_) (fun e => ?_)
  · rw [if_pos e]
    refine ab_sound ok_141 [] 80 ?_
    exact ⟨rfl, rfl, rfl⟩
  rw [if_neg e]
  refine And.intro (fun e => ?_) (fun e => ?_)
  · rw [if_pos e]
    refine ab_sound ok_141 [] 80 ?_
    exact ⟨rfl, rfl, rfl⟩
  rw [if_neg e]
  refine And.intro (fun e => ?_) (fun e => ?_)
  · rw [if_pos e]
    refine ab_sound ok_141 [] 80 ?_
    (refine Exists.intro 0 ?_; refine ⟨0, _, Nat.zero_le _, Nat.zero_le _, k_sheetsThatAre _ _ rfl hS, ?_⟩; refine ab_q1_elim ?_)
    exact ⟨rfl, rfl, rfl⟩
  rw [if_neg e]
  refine And.intro (fun e => ?_) (fun e => ?_)
  · rw [if_pos e]
    refine ab_sound ok_141 [] 80 ?_
    exact ⟨rfl, rfl, rfl⟩
  rw [if_neg e]
  refine ab_sound ok_141 [] 80 ?_
  exact ⟨rfl, rfl, rfl⟩
theorem k_Mod_count (x : Int32) (w : ab_W) (n : Nat) {s : Nat → Int32} {wd tn : Int64} {N : Nat → Nat} {R : Nat → Nat → Nat → Int64} {K : KA} {nr nw np : Nat} (h90 : w 90 = oMod s wd tn) (hS : MSh w N R) (hC : MKit w K nr nw np) :
    ab_C X l i_Mod_count [.ref 90, .int x] w n 0 0 (ab_q1 (some (.int (cnV x nr nw np (cnt (isN N) 8) (s 2)))) (va_up w 90 (oMod (upd s 0 (nI 0)) wd tn)) n) := by
  obtain ⟨⟨f93, h93, g93⟩, ⟨f94, h94, g94⟩, ⟨f95, h95, g95⟩, -⟩ := hC
  obtain ⟨hNO, pt, G, h115, gpt, -⟩ := hS
  obtain ⟨w, rfl⟩ := va_ex5 h90 h93 h94 h95 h115
  have loop : ∀ t, t ≤ 8 → ∀ w2, w2 90 = oMod (upd s 0 (nI 0)) wd tn → w2 115 = aI 8 pt → ab_Ev X l i_Mod_count 65 [some (.ref 90), some (.int x), some (.int (nI (cnt (isN N) t))), some (.int (nI t))] [] w2 n 0 0 (ab_q1 (some (.int (nI (cnt (isN N) 8)))) w2 n) := by
    refine ab_up 8 ?_ (fun t ht ih => ?_)
    · intro w2 k0 k1
      obtain ⟨w2, rfl⟩ := va_ex2 k0 k1
      refine ab_sound ok_243 [65] 80 ?_
      refine And.intro (fun _ => ?_) (fun h_9 => absurd ((by decide)) h_9)
      exact ⟨rfl, rfl, rfl⟩
    · intro w2 k0 k1
      have ih2 := ih w2 k0 k1
      obtain ⟨w2, rfl⟩ := va_ex2 k0 k1
      refine ab_sound ok_243 [65] 80 ?_
      refine And.intro (fun h_9 => absurd h_9 (nI_ge ht (by omega))) (fun _ => ?_)
      refine And.intro (vp_in_nI (by omega) (by omega)) ?_
      rw [nI_clamp (by omega), gpt t ht]
      by_cases e : N t = 0
      · have ec : cnt (isN N) (t + 1) = cnt (isN N) t := by
          show cnt (isN N) t + (if isN N t = true then 1 else 0) = _
          rw [if_neg (by unfold isN; simp [e])]
          rfl
        rw [ec] at ih2
        refine And.intro (fun _ => ?_) (fun h_9 => absurd ((by rw [e]; decide)) h_9)
        exact ab_ev_of ih2 (by rw [nI_s t]; rfl) rfl rfl
      · have ec : cnt (isN N) (t + 1) = cnt (isN N) t + 1 := by
          show cnt (isN N) t + (if isN N t = true then 1 else 0) = _
          rw [if_pos (by unfold isN; simp [e])]
        rw [ec] at ih2
        refine And.intro (fun h_9 => absurd h_9 ((by have := (hNO t ht).resolve_left e; exact nI_ge (show 0 < N t by omega) (by omega)))) (fun _ => ?_)
        exact ab_ev_of ih2 (by rw [nI_s t, nI_s (cnt (isN N) t)]; rfl) rfl rfl
  refine ab_metI cd_243 om_243 rfl (ab_sound ok_243 [40, 47, 54, 61, 91, 96] 80 ?_)
  unfold cnV
  refine And.intro (fun e => ?_) (fun e => ?_)
  · rw [if_pos e]
    refine ab_sound ok_243 [] 80 ?_
    refine And.intro (vp_in_nI (by omega) (by omega)) ?_
    exact ⟨congrArg (fun q => some (Value.int q)) g93, rfl, rfl⟩
  rw [if_neg e]
  refine And.intro (fun e => ?_) (fun e => ?_)
  · rw [if_pos e]
    refine ab_sound ok_243 [] 80 ?_
    refine And.intro (vp_in_nI (by omega) (by omega)) ?_
    exact ⟨congrArg (fun q => some (Value.int q)) g94, rfl, rfl⟩
  rw [if_neg e]
  refine And.intro (fun e => ?_) (fun e => ?_)
  · rw [if_pos e]
    refine ab_sound ok_243 [] 80 ?_
    refine And.intro (vp_in_nI (by omega) (by omega)) ?_
    exact ⟨congrArg (fun q => some (Value.int q)) g95, rfl, rfl⟩
  rw [if_neg e]
  refine And.intro (fun e => ?_) (fun e => ?_)
  · rw [if_pos e]
    refine ab_sound ok_243 [65] 80 ?_
    exact ab_ev_of (loop 0 (by omega) _ rfl rfl) rfl rfl rfl
  rw [if_neg e]
  refine And.intro (fun e => ?_) (fun e => ?_)
  · rw [if_pos e]
    refine ab_sound ok_243 [] 80 ?_
    exact ⟨rfl, rfl, rfl⟩
  rw [if_neg e]
  refine ab_sound ok_243 [] 80 ?_
  exact ⟨rfl, rfl, rfl⟩
end SMALL
