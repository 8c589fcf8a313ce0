/-! frames, posts that leave parts of the world unsaid, sums and sheets as wholes -/
def Fr {α : Type} (F : Nat → Prop) (w w' : Nat → α) : Prop := ∀ k, ¬ F k → w' k = w k
theorem Fr.refl {α : Type} {F : Nat → Prop} {w : Nat → α} : Fr F w w := fun _ _ => rfl
theorem Fr.trans {α : Type} {F : Nat → Prop} {w w1 w2 : Nat → α} (h1 : Fr F w w1) (h2 : Fr F w1 w2) : Fr F w w2 := fun k hk => (h2 k hk).trans (h1 k hk)
theorem Fr.mono {α : Type} {F G : Nat → Prop} {w w1 : Nat → α} (h1 : Fr F w w1) (h : ∀ k, F k → G k) : Fr G w w1 := fun k hk => h1 k (fun z => hk (h k z))
theorem Fr.up {α : Type} {F : Nat → Prop} {w w1 : Nat → α} {k : Nat} {c : α} (h : Fr F w w1) (hk : F k) : Fr F w (va_up w1 k c) := fun j hj => by
  have e : j ≠ k := fun z => hj (z ▸ hk)
  rw [va_un e]
  exact h j hj
theorem Fr.get {α : Type} {F : Nat → Prop} {w w1 : Nat → α} {k : Nat} {c : α} (h : Fr F w w1) (hc : w k = c) (hk : ¬ F k) : w1 k = c := (h k hk).trans hc
theorem upd_ne {f : Nat → Int32} {i j : Nat} {x : Int32} (h : j ≠ i) : upd f i x j = f j := by simp [upd, h]
theorem upd_at {f : Nat → Int32} {i : Nat} {x : Int32} : upd f i x i = x := by simp [upd]
theorem Fr.us {F : Nat → Prop} {s s1 : Nat → Int32} {k : Nat} {c : Int32} (h : Fr F s s1) (hk : F k) : Fr F s (upd s1 k c) := fun j hj => by
  have e : j ≠ k := fun z => hj (z ▸ hk)
  rw [upd_ne e]
  exact h j hj
theorem ab_q1_elim {v : Option Value} {w : ab_W} {n : Nat} {K : Option Value → ab_W → Nat → Prop} (h : K v w n) : ∀ v' w' n', ab_q1 v w n v' w' n' → K v' w' n' := by
  rintro _ _ _ ⟨rfl, rfl, rfl⟩
  exact h
def qV (P : ab_W → Nat → Prop) : ab_Q := fun v w' n' => v = none ∧ P w' n'
def qI (x : Int32) (P : ab_W → Nat → Prop) : ab_Q := fun v w' n' => v = some (.int x) ∧ P w' n'
def qL (x : Int64) (P : ab_W → Nat → Prop) : ab_Q := fun v w' n' => v = some (.long x) ∧ P w' n'
/-- thrown -/
def qT (P : ab_W → Nat → Prop) : ab_Q := fun v w' n' => v = some (.retAddr 7777) ∧ P w' n'
theorem ab_C.weaken {X : ab_X} {l : Launch} {y : Nat} {av : List Value} {w : ab_W} {n mc ms : Nat} {Q Q' : ab_Q} (h : ab_C X l y av w n mc ms Q) (hq : ∀ v w' n', Q v w' n' → Q' v w' n') : ab_C X l y av w n mc ms Q' := by
  refine ⟨h.1, fun ad avr ws sz h1 h2 => ?_⟩
  have h9 := h.2 ad avr ws sz h1 h2
  unfold Met MetFree at h9 ⊢
  intro p e a1 a2 a3 s m args below a4 a5 a6 a7
  obtain ⟨k, o, b1, b2, b3, ⟨v, v', w', n', ad', ws', c1, c2, c3, c4⟩, b5⟩ := h9 p e a1 a2 a3 s m args below a4 a5 a6 a7
  exact ⟨k, o, b1, b2, b3, ⟨v, v', w', n', ad', ws', c1, c2, hq _ _ _ c3, c4⟩, b5⟩
section METQ
variable {X : ab_X} {l : Launch} {y : Nat} {av : List Value} {w : ab_W} {n mc ms : Nat} {P : ab_W → Nat → Prop}
theorem ab_mqI {x : Int32} (hcd : Cond.code (ab_mn y) (ab_by y) (ab_mx y) (ab_rt y) ∈ lw_tbl) (hok : ab_okm y = true) (hmx : Nat.ble (ab_en0 av).length (ab_mx y) = true) (h : ab_Ev X l y 0 (ab_en (ab_mx y) av) [] w n mc ms (qI x P)) : ab_C X l y av w n mc ms (qI x P) := by
  refine ab_met hcd hok hmx ?_ h
  rintro _ _ _ ⟨rfl, -⟩
  trivial
theorem ab_mqL {x : Int64} (hcd : Cond.code (ab_mn y) (ab_by y) (ab_mx y) (ab_rt y) ∈ lw_tbl) (hok : ab_okm y = true) (hrt : ab_rt y = some .long) (hmx : Nat.ble (ab_en0 av).length (ab_mx y) = true) (h : ab_Ev X l y 0 (ab_en (ab_mx y) av) [] w n mc ms (qL x P)) : ab_C X l y av w n mc ms (qL x P) := by
  refine ab_met hcd hok hmx ?_ h
  rintro _ _ _ ⟨rfl, -⟩
  exact hrt
theorem ab_mqV (hcd : Cond.code (ab_mn y) (ab_by y) (ab_mx y) (ab_rt y) ∈ lw_tbl) (hok : ab_okm y = true) (hrt : ab_rt y = none) (hmx : Nat.ble (ab_en0 av).length (ab_mx y) = true) (h : ab_Ev X l y 0 (ab_en (ab_mx y) av) [] w n mc ms (qV P)) : ab_C X l y av w n mc ms (qV P) := by
  refine ab_met hcd hok hmx ?_ h
  rintro _ _ _ ⟨rfl, -⟩
  exact hrt
end METQ
/-- an int is one of 0 .. m - 1, or it isn't -/
theorem in_or (m : Nat) (hm : m < 2 ^ 31) (x : Int32) : (∃ k, k < m ∧ x = nI k) ∨ (x < 0 ∨ nI m ≤ x) := by
  by_cases h : x < 0
  · exact Or.inr (Or.inl h)
  · by_cases h2 : nI m ≤ x
    · exact Or.inr (Or.inr h2)
    · rw [i32_lt] at h
      rw [i32_le, nI_toInt hm] at h2
      have h0 : (0 : Int32).toInt = 0 := rfl
      refine Or.inl ⟨x.toInt.toNat, by omega, nI_of_toInt (by omega)⟩
theorem n_out {m k : Nat} {x : Int32} (hm : m < 2 ^ 31) (hk : k < m) (h : x < 0 ∨ nI m ≤ x) : x ≠ nI k := by
  intro e
  subst e
  rcases h with h | h
  · exact nI_pos (by omega) h
  · exact nI_ge hk hm h
section FRAME
variable {X : ab_X} {l : Launch}
/-- the sums are ready for N -/
def KSums (w : ab_W) (N : Nat) : Prop := (3 ≤ N ∧ N ≤ 60) ∧ ∃ c f : Nat → Int64, w 17 = oSums (nI N) (nI (phi N)) ∧ w 18 = aJ 59 c ∧ w 19 = aJ 60 f ∧ ∀ j, j ≤ phi N → c j = Int64.ofInt ((least N).getD j 0)
def KS0 (w : ab_W) : Prop := (∃ c f : Nat → Int64, w 17 = oSums (nI 0) (nI 0) ∧ w 18 = aJ 59 c ∧ w 19 = aJ 60 f) ∨ ∃ N, KSums w N
theorem KSums.fr {F : Nat → Prop} {w w' : ab_W} {N : Nat} (h : KSums w N) (hf : Fr F w w') (h17 : ¬ F 17) (h18 : ¬ F 18) (h19 : ¬ F 19) : KSums w' N := by
  obtain ⟨h0, c, f, h1, h2, h3, h4⟩ := h
  exact ⟨h0, c, f, hf.get h1 h17, hf.get h2 h18, hf.get h3 h19, h4⟩
theorem KS0.fr {F : Nat → Prop} {w w' : ab_W} (h : KS0 w) (hf : Fr F w w') (h17 : ¬ F 17) (h18 : ¬ F 18) (h19 : ¬ F 19) : KS0 w' := by
  rcases h with ⟨c, f, h1, h2, h3⟩ | ⟨N, h⟩
  · exact Or.inl ⟨c, f, hf.get h1 h17, hf.get h2 h18, hf.get h3 h19⟩
  · exact Or.inr ⟨N, h.fr hf h17 h18 h19⟩
theorem KSums.set {w : ab_W} {N : Nat} {f : Nat → Int64} (h : KSums w N) : KSums (va_up w 19 (aJ 60 f)) N := by
  obtain ⟨h0, c, f0, h1, h2, h3, h4⟩ := h
  exact ⟨h0, c, f, (va_un (by omega)).trans h1, (va_un (by omega)).trans h2, va_us, h4⟩
theorem least_toF (N : Nat) (hN : N ≤ 60) (c : Nat → Int64) (j : Nat) (hj : j ≤ phi N) : toF (least N) c j = Int64.ofInt ((least N).getD j 0) := by
  have := phi_le N hN
  exact toF_at _ _ (by rw [least_len]; omega)
theorem k_choose (x : Int32) (N : Nat) (w : ab_W) (n : Nat) (hx : x = nI N) (hN : N ≤ 60) (hN3 : 3 ≤ N) (h : KS0 w) : ab_C X l i_Sums_choose [.ref 17, .int x] w n 0 0 (qV fun w' n' => n = n' ∧ Fr (fun k => k = 17 ∨ k = 18) w w' ∧ KSums w' N) := by
  have gen : ∀ (v p : Int32) (c f : Nat → Int64), nI N ≠ v → w 17 = oSums v p → w 18 = aJ 59 c → w 19 = aJ 60 f → ab_C X l i_Sums_choose [.ref 17, .int x] w n 0 0 (qV fun w' n' => n = n' ∧ Fr (fun k => k = 17 ∨ k = 18) w w' ∧ KSums w' N) := by
    intro v p c f hv h1 h2 h3
    refine ab_C.weaken (c_Sums_choose x N w n hx hv hN hN3 h1 h2) ?_
    rintro _ _ _ ⟨rfl, rfl, rfl⟩
    refine ⟨rfl, rfl, (Fr.refl.up (by omega)).up (by omega), ⟨hN3, hN⟩, _, f, (va_un (by omega)).trans va_us, va_us, (va_un (by omega)).trans ((va_un (by omega)).trans h3), least_toF N hN c⟩
  rcases h with ⟨c, f, h1, h2, h3⟩ | ⟨M, hM⟩
  · exact gen _ _ c f (fun z => by have := (nI_eq (by omega) (by omega)).mp z; omega) h1 h2 h3
  · by_cases e : M = N
    · subst e
      have hM2 := hM
      obtain ⟨h0, c, f, h1, h2, h3, h4⟩ := hM
      refine ab_C.weaken (c_Sums_choose_same x w n hx h1) ?_
      rintro _ _ _ ⟨rfl, rfl, rfl⟩
      exact ⟨rfl, rfl, Fr.refl, hM2⟩
    · obtain ⟨h0, c, f, h1, h2, h3, h4⟩ := hM
      exact gen _ _ c f (fun z => e ((nI_eq (by omega) (by omega)).mp z).symm) h1 h2 h3
theorem red_allc (N : Nat) (hN : N ≤ 60) (hN3 : 3 ≤ N) {c : Nat → Int64} (hc : ∀ j, j ≤ phi N → c j = Int64.ofInt ((least N).getD j 0)) (i : Nat) (hi : i < phi N) (f : Nat → Int64) : redD (phi N) c (N - phi N) f i = redV N f i := by
  have h2 := phi_ge N hN hN3
  have h3 := phi_lt N hN hN3
  rw [red_eq N h2 hc i hi]
  rw [show phi N + (N - phi N) = N by omega]
  rfl
end FRAME
