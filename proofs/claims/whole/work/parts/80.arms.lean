/-! arms of a pen: rows of (up, low, span) -/
abbrev Arm : Type := Int64 × Int64 × Int
def arD : Arm := (0, 1, 0)
def mtA (a b : Int64) (x : Arm) : Prop := x.1 = a ∧ x.2.1 = b
def jnL (a b : Int64) (s : Int) : List Arm → List Arm
  | [] => [(a, b, s)]
  | x :: L => if x.1 = a ∧ x.2.1 = b then (a, b, x.2.2 + s) :: L else x :: jnL a b s L
theorem jn_no {a b : Int64} {s : Int} : ∀ (L : List Arm), (∀ i, i < L.length → ¬ mtA a b (L.getD i arD)) → jnL a b s L = L ++ [(a, b, s)]
  | [], _ => rfl
  | x :: L, h => by
    unfold jnL
    have h0 : ¬ (x.1 = a ∧ x.2.1 = b) := h 0 (by rw [List.length_cons]; omega)
    rw [if_neg h0, jn_no L (fun i hi => h (i + 1) (by rw [List.length_cons]; omega))]
    rfl
theorem jn_at {a b : Int64} {s : Int} : ∀ (L : List Arm) (i : Nat), i < L.length → mtA a b (L.getD i arD) → (∀ j, j < i → ¬ mtA a b (L.getD j arD)) → jnL a b s L = L.set i (a, b, (L.getD i arD).2.2 + s)
  | [], i, h, _, _ => absurd h (Nat.not_lt_zero _)
  | x :: L, 0, _, h, _ => by
    have h0 : x.1 = a ∧ x.2.1 = b := h
    unfold jnL
    rw [if_pos h0]
    rfl
  | x :: L, i + 1, hi, h, hj => by
    unfold jnL
    have h0 : ¬ (x.1 = a ∧ x.2.1 = b) := hj 0 (by omega)
    rw [if_neg h0, jn_at L i (by rw [List.length_cons] at hi; omega) h (fun j hj2 => hj (j + 1) (by omega))]
    rfl
theorem jn_len {a b : Int64} {s : Int} : ∀ (L : List Arm), L.length ≤ (jnL a b s L).length ∧ (jnL a b s L).length ≤ L.length + 1
  | [] => ⟨by show 0 ≤ 1; omega, by show 1 ≤ 0 + 1; omega⟩
  | x :: L => by
    have ih := jn_len (a := a) (b := b) (s := s) L
    unfold jnL
    split
    · rw [List.length_cons, List.length_cons]; omega
    · rw [List.length_cons, List.length_cons]; omega
def paI (L : List Arm) (u d s : Nat → Int64) : Prop := ∀ i, i < L.length → u i = (L.getD i arD).1 ∧ d i = (L.getD i arD).2.1 ∧ s i = Int64.ofInt (L.getD i arD).2.2
def pmI (L : List Arm) (u d : Nat → Int64) (s : Nat → Int32) : Prop := ∀ i, i < L.length → u i = (L.getD i arD).1 ∧ d i = (L.getD i arD).2.1 ∧ s i = Int32.ofInt (L.getD i arD).2.2
theorem getD_app {L : List Arm} {x : Arm} {i : Nat} (hi : i < L.length + 1) : (L ++ [x]).getD i arD = if i = L.length then x else L.getD i arD := by
  by_cases e : i = L.length
  · rw [if_pos e, e]
    simp
  · rw [if_neg e]
    simp only [List.getD_eq_getElem?_getD]
    rw [List.getElem?_append_left (by omega)]
theorem getD_set {L : List Arm} {x : Arm} {i j : Nat} (hi : i < L.length) : (L.set i x).getD j arD = if j = i then x else L.getD j arD := by
  simp only [List.getD_eq_getElem?_getD]
  by_cases e : j = i
  · subst e
    rw [if_pos rfl, List.getElem?_set_self hi]
    rfl
  · rw [if_neg e, List.getElem?_set_ne (fun z => e z.symm)]
theorem paI.app {L : List Arm} {u d s : Nat → Int64} (h : paI L u d s) (a b : Int64) (z : Int) : paI (L ++ [(a, b, z)]) (vp_updL u L.length a) (vp_updL d L.length b) (vp_updL s L.length (Int64.ofInt z)) := fun i hi => by
  rw [List.length_append] at hi
  have hi : i < L.length + 1 := hi
  rw [getD_app hi]
  by_cases e : i = L.length
  · rw [if_pos e, e, vp_at, vp_at, vp_at]
    exact ⟨rfl, rfl, rfl⟩
  · rw [if_neg e, vp_ne e, vp_ne e, vp_ne e]
    exact h i (by omega)
theorem pmI.app {L : List Arm} {u d : Nat → Int64} {s : Nat → Int32} (h : pmI L u d s) (a b : Int64) (z : Int) : pmI (L ++ [(a, b, z)]) (vp_updL u L.length a) (vp_updL d L.length b) (upd s L.length (Int32.ofInt z)) := fun i hi => by
  rw [List.length_append] at hi
  have hi : i < L.length + 1 := hi
  rw [getD_app hi]
  by_cases e : i = L.length
  · rw [if_pos e, e, vp_at, vp_at, upd_at]
    exact ⟨rfl, rfl, rfl⟩
  · rw [if_neg e, vp_ne e, vp_ne e, upd_ne e]
    exact h i (by omega)
theorem paI.put {L : List Arm} {u d s : Nat → Int64} (h : paI L u d s) {i : Nat} (hi : i < L.length) {a b : Int64} (hm : mtA a b (L.getD i arD)) (z : Int) : paI (L.set i (a, b, z)) u d (vp_updL s i (Int64.ofInt z)) := fun j hj => by
  rw [List.length_set] at hj
  rw [getD_set hi]
  have h9 := h j hj
  by_cases e : j = i
  · subst e
    rw [if_pos rfl, vp_at]
    exact ⟨h9.1.trans hm.1, h9.2.1.trans hm.2, rfl⟩
  · rw [if_neg e, vp_ne e]
    exact h9
theorem pmI.put {L : List Arm} {u d : Nat → Int64} {s : Nat → Int32} (h : pmI L u d s) {i : Nat} (hi : i < L.length) {a b : Int64} (hm : mtA a b (L.getD i arD)) (z : Int) : pmI (L.set i (a, b, z)) u d (upd s i (Int32.ofInt z)) := fun j hj => by
  rw [List.length_set] at hj
  rw [getD_set hi]
  have h9 := h j hj
  by_cases e : j = i
  · subst e
    rw [if_pos rfl, upd_at]
    exact ⟨h9.1.trans hm.1, h9.2.1.trans hm.2, rfl⟩
  · rw [if_neg e, upd_ne e]
    exact h9
section ARMS
variable {X : ab_X} {l : Launch}
theorem k_join (a b c : Int64) (z : Int) (L : List Arm) (w : ab_W) (n : Nat) {tc : Int64} {u d s : Nat → Int64} (hc : c = Int64.ofInt z) (hL : L.length < 5) (h12 : w 12 = oPA (nI L.length) tc) (h13 : w 13 = aJ 5 u) (h14 : w 14 = aJ 5 d) (h15 : w 15 = aJ 5 s) (hp : paI L u d s) :
    ab_C X l i_PA_join [.ref 12, .long a, .long b, .long c] w n 0 0 (qV fun w' n' => n = n' ∧ Fr (fun k => 12 ≤ k ∧ k ≤ 15) w w' ∧ w' 12 = oPA (nI (jnL a b z L).length) tc ∧ ∃ u d s, w' 13 = aJ 5 u ∧ w' 14 = aJ 5 d ∧ w' 15 = aJ 5 s ∧ paI (jnL a b z L) u d s) := by
  subst hc
  obtain ⟨w, rfl⟩ := va_ex4 h12 h13 h14 h15
  refine ab_mqV cd_48 om_48 rfl rfl (ab_sound ok_48 [3] 80 ?_)
  generalize hW : va_up (va_up (va_up (va_up w 15 (aJ 5 s)) 14 (aJ 5 d)) 13 (aJ 5 u)) 12 (oPA (nI L.length) tc) = W
  have loop : ∀ i, i ≤ L.length → (∀ j, j < i → ¬ mtA a b (L.getD j arD)) → ab_Ev X l i_PA_join 3 [some (.ref 12), some (.long a), none, some (.long b), none, some (.long (Int64.ofInt z)), none, some (.int (nI i))] [] W n 0 0 (qV fun w' n' => n = n' ∧ Fr (fun k => 12 ≤ k ∧ k ≤ 15) W w' ∧ w' 12 = oPA (nI (jnL a b z L).length) tc ∧ ∃ u d s, w' 13 = aJ 5 u ∧ w' 14 = aJ 5 d ∧ w' 15 = aJ 5 s ∧ paI (jnL a b z L) u d s) := by
    subst hW
    refine ab_up L.length ?_ (fun i hi ih => ?_)
    · intro hm
      have e := jn_no (a := a) (b := b) (s := z) L (fun i hi => hm i hi)
      have hq := hp.app a b z
      rw [← e] at hq
      have hl : (jnL a b z L).length = L.length + 1 := by rw [e, List.length_append]; rfl
      refine ab_sound ok_48 [3] 80 ?_
      refine And.intro (fun _ => ?_) (fun h_9 => absurd (nI_le (Nat.le_refl _) (by omega)) h_9)
      refine And.intro (fun h_9 => absurd h_9 (nI_ge hL (by omega))) (fun _ => ?_)
      refine And.intro (vp_in_nI hL (by omega)) ?_
      refine And.intro (vp_in_nI hL (by omega)) ?_
      refine And.intro (vp_in_nI hL (by omega)) ?_
      rw [nI_clamp (by omega)]
      exact ⟨rfl, rfl, (((Fr.refl.up (by omega)).up (by omega)).up (by omega)).up (by omega), by rw [hl, nI_s L.length]; rfl, _, _, _, rfl, rfl, rfl, hq⟩
    · intro hm
      obtain ⟨p1, p2, p3⟩ := hp i hi
      have hno : ¬ mtA a b (L.getD i arD) → ∀ j, j < i + 1 → ¬ mtA a b (L.getD j arD) := fun h j hj => by
        by_cases e : j = i
        · rw [e]; exact h
        · exact hm j (by omega)
      refine ab_sound ok_48 [3] 80 ?_
      refine And.intro (fun h_9 => absurd h_9 (nI_ge hi (by omega))) (fun _ => ?_)
      refine And.intro (vp_in_nI (by omega) (by omega)) ?_
      rw [nI_clamp (by omega), p1]
      refine And.intro (fun e1 => ?_) (fun e1 => ?_)
      · exact ab_ev_of (ih (hno (fun q => e1 (lg_eq.mpr q.1)))) (by rw [nI_s i]; rfl) rfl rfl
      · rw [lg_eq] at e1
        refine And.intro (vp_in_nI (by omega) (by omega)) ?_
        rw [nI_clamp (by omega), p2]
        refine And.intro (fun e2 => ?_) (fun e2 => ?_)
        · exact ab_ev_of (ih (hno (fun q => e2 (lg_eq.mpr q.2)))) (by rw [nI_s i]; rfl) rfl rfl
        · rw [lg_eq] at e2
          have hmt : mtA a b (L.getD i arD) := ⟨e1, e2⟩
          have e := jn_at (s := z) L i hi hmt hm
          have hq := hp.put hi hmt ((L.getD i arD).2.2 + z)
          rw [← e] at hq
          have hl : (jnL a b z L).length = L.length := by rw [e, List.length_set]
          refine And.intro (vp_in_nI (by omega) (by omega)) ?_
          refine And.intro (vp_in_nI (by omega) (by omega)) ?_
          rw [nI_clamp (by omega), p3, ← Int64.ofInt_add]
          exact ⟨rfl, rfl, Fr.refl.up (by omega), by rw [hl]; rfl, _, _, _, rfl, rfl, rfl, hq⟩
  subst hW
  exact loop 0 (by omega) (fun j hj => by omega)
theorem k_addArm (a b : Int64) (c : Int32) (z : Int) (L : List Arm) (w : ab_W) (n : Nat) {sc : Nat → Int32} {wd tn : Int64} {u d : Nat → Int64} {s : Nat → Int32} (hc : c = Int32.ofInt z) (hL : L.length < 6) (h90 : w 90 = oMod sc wd tn) (h33 : sc 33 = nI L.length) (h107 : w 107 = aJ 6 u) (h108 : w 108 = aJ 6 d) (h110 : w 110 = aI 6 s) (hp : pmI L u d s) :
    ab_C X l i_Mod_addArm [.ref 90, .long a, .long b, .int c] w n 0 0 (qV fun w' n' => n = n' ∧ Fr (fun k => k = 90 ∨ k = 107 ∨ k = 108 ∨ k = 110) w w' ∧ w' 90 = oMod (upd sc 33 (nI (jnL a b z L).length)) wd tn ∧ ∃ u d s, w' 107 = aJ 6 u ∧ w' 108 = aJ 6 d ∧ w' 110 = aI 6 s ∧ pmI (jnL a b z L) u d s) := by
  subst hc
  have hsc : sc = upd sc 33 (nI L.length) := by
    funext j
    by_cases e : j = 33
    · rw [e, upd_at, h33]
    · rw [upd_ne e]
  obtain ⟨w, rfl⟩ := va_ex4 h90 h107 h108 h110
  refine ab_mqV cd_188 om_188 rfl rfl (ab_sound ok_188 [3] 80 ?_)
  generalize hW : va_up (va_up (va_up (va_up w 110 (aI 6 s)) 108 (aJ 6 d)) 107 (aJ 6 u)) 90 (oMod sc wd tn) = W
  have loop : ∀ i, i ≤ L.length → (∀ j, j < i → ¬ mtA a b (L.getD j arD)) → ab_Ev X l i_Mod_addArm 3 [some (.ref 90), some (.long a), none, some (.long b), none, some (.int (Int32.ofInt z)), some (.int (nI i))] [] W n 0 0 (qV fun w' n' => n = n' ∧ Fr (fun k => k = 90 ∨ k = 107 ∨ k = 108 ∨ k = 110) W w' ∧ w' 90 = oMod (upd sc 33 (nI (jnL a b z L).length)) wd tn ∧ ∃ u d s, w' 107 = aJ 6 u ∧ w' 108 = aJ 6 d ∧ w' 110 = aI 6 s ∧ pmI (jnL a b z L) u d s) := by
    subst hW
    refine ab_up L.length ?_ (fun i hi ih => ?_)
    · intro hm
      have e := jn_no (a := a) (b := b) (s := z) L (fun i hi => hm i hi)
      have hq := hp.app a b z
      rw [← e] at hq
      have hl : (jnL a b z L).length = L.length + 1 := by rw [e, List.length_append]; rfl
      refine ab_sound ok_188 [3] 80 ?_
      refine And.intro (fun _ => ?_) (fun h_9 => absurd ((by rw [h33]; exact nI_le (Nat.le_refl _) (by omega))) h_9)
      refine And.intro ((by rw [h33]; exact vp_in_nI hL (by omega))) ?_
      refine And.intro ((by rw [h33]; exact vp_in_nI hL (by omega))) ?_
      refine And.intro ((by rw [h33]; exact vp_in_nI hL (by omega))) ?_
      simp only [h33, nI_clamp (show L.length < 2 ^ 31 by omega)]
      refine ⟨rfl, rfl, (((Fr.refl.up (by omega)).up (by omega)).up (by omega)).up (by omega), ?_, _, _, _, rfl, rfl, rfl, hq⟩
      rw [hl, nI_s L.length, ← h33]
      rfl
    · intro hm
      obtain ⟨p1, p2, p3⟩ := hp i hi
      have hno : ¬ mtA a b (L.getD i arD) → ∀ j, j < i + 1 → ¬ mtA a b (L.getD j arD) := fun h j hj => by
        by_cases e : j = i
        · rw [e]; exact h
        · exact hm j (by omega)
      refine ab_sound ok_188 [3] 80 ?_
      refine And.intro (fun h_9 => absurd h_9 ((by rw [h33]; exact nI_ge hi (by omega)))) (fun _ => ?_)
      refine And.intro (vp_in_nI (by omega) (by omega)) ?_
      rw [nI_clamp (by omega), p1]
      refine And.intro (fun e1 => ?_) (fun e1 => ?_)
      · exact ab_ev_of (ih (hno (fun q => e1 (lg_eq.mpr q.1)))) (by rw [nI_s i]; rfl) rfl rfl
      · rw [lg_eq] at e1
        refine And.intro (vp_in_nI (by omega) (by omega)) ?_
        rw [nI_clamp (by omega), p2]
        refine And.intro (fun e2 => ?_) (fun e2 => ?_)
        · rw [lg_eq] at e2
          have hmt : mtA a b (L.getD i arD) := ⟨e1, e2⟩
          have e := jn_at (s := z) L i hi hmt hm
          have hq := hp.put hi hmt ((L.getD i arD).2.2 + z)
          rw [← e] at hq
          have hl : (jnL a b z L).length = L.length := by rw [e, List.length_set]
          refine And.intro (vp_in_nI (by omega) (by omega)) ?_
          refine And.intro (vp_in_nI (by omega) (by omega)) ?_
          rw [nI_clamp (by omega), p3, ← Int32.ofInt_add]
          refine ⟨rfl, rfl, Fr.refl.up (by omega), ?_, _, _, _, rfl, rfl, rfl, hq⟩
          rw [hl, ← hsc]
          rfl
        · exact ab_ev_of (ih (hno (fun q => e2 (lg_eq.mpr q.2)))) (by rw [nI_s i]; rfl) rfl rfl
  subst hW
  exact loop 0 (by omega) (fun j hj => by omega)
end ARMS
