section GATHER
variable {X : ab_X} {l : Launch}
theorem ShIs.re {w : ab_W} {q N a k : Nat} {R : Nat → Nat → Int64} {c d : va_E} (h : ShIs (va_up w k c) q N a R) (hk : k < 41 ∨ (43 ≤ k ∧ k < 74) ∨ (90 ≤ k ∧ k < 135)) : ShIs (va_up w k d) q N a R := by
  have := h.up (c := d) hk
  rwa [va_uu] at this
/-- what is added, one after the other, at the places ix -/
def gaF (ix : Nat → Nat) (v : Nat → Int64) : Nat → (Nat → Int64) → (Nat → Int64)
  | 0, f => f
  | j + 1, f => vp_updL (gaF ix v j f) (ix j) (gaF ix v j f (ix j) + v j)
theorem gaF_z (ix : Nat → Nat) (f : Nat → Int64) : ∀ m, gaF ix (fun _ => 0) m f = f
  | 0 => rfl
  | m + 1 => by
    unfold gaF
    rw [gaF_z ix f m]
    funext j
    unfold vp_updL
    split
    · rename_i e; rw [e]; simp
    · rfl
theorem gaF_congr {ix ix2 : Nat → Nat} {v v2 : Nat → Int64} (f : Nat → Int64) : ∀ m, (∀ j, j < m → ix j = ix2 j ∧ v j = v2 j) → gaF ix v m f = gaF ix2 v2 m f
  | 0, _ => rfl
  | m + 1, h => by
    unfold gaF
    rw [gaF_congr f m (fun j hj => h j (by omega)), (h m (by omega)).1, (h m (by omega)).2]
/-- a row times z -/
def turnF (p : Nat) (c r : Nat → Int64) : Nat → Int64 := fun j => if j < p then (if 0 < j then r (j - 1) - r (p - 1) * c j else -(r (p - 1)) * c 0) else r j
def turnI (p i : Nat) (c r : Nat → Int64) : Nat → Int64 := fun j => if i < j ∧ j < p then r (j - 1) - r (p - 1) * c j else r j
theorem c_Sums_turnOnce (p : Nat) (w : ab_W) (n : Nat) {v : Int32} {c r : Nat → Int64} (hp : 1 ≤ p) (hp2 : p ≤ 58) (h0 : w 17 = oSums v (nI p)) (h1 : w 18 = aJ 59 c) (h2 : w 23 = aJ 58 r) : ab_C X l i_Sums_turnOnce [.ref 17, .ref 23] w n 0 0 (ab_q1 none (va_up w 23 (aJ 58 (turnF p c r))) n) := by
  obtain ⟨w, rfl⟩ := va_ex3 h2 h1 h0
  refine ab_metV cd_73 om_73 rfl rfl (ab_sound ok_73 [35] 50 ?_)
  refine And.intro (fun h_9 => absurd h_9 (nI_nlt hp (by omega))) (fun _ => ?_)
  refine And.intro (fun _ => ?_) (fun h_9 => absurd (nI_le hp2 (by omega)) h_9)
  refine And.intro ((by rw [pk_sub hp]; exact vp_in_nI (by omega) (by omega))) ?_
  rw [va_uu, pk_sub hp, nI_clamp (by omega)]
  have loop : ∀ i, i ≤ p - 1 → ab_Ev X l i_Sums_turnOnce 35 [some (.ref 17), some (.ref 23), some (.long (r (p - 1))), none, some (.int (nI i))] [] (va_up (va_up (va_up w 17 (oSums v (nI p))) 18 (aJ 59 c)) 23 (aJ 58 (turnI p i c r))) n 0 0 (ab_q1 none (va_up (va_up (va_up w 17 (oSums v (nI p))) 18 (aJ 59 c)) 23 (aJ 58 (turnF p c r))) n) := by
    intro i
    induction i with
    | zero =>
      intro _
      refine ab_sound ok_73 [35] 50 ?_
      refine And.intro (fun _ => ?_) (fun h_9 => absurd ((by decide)) h_9)
      refine And.intro (vp_in_nI (by omega) (by omega)) ?_
      refine And.intro (vp_in_nI (by omega) (by omega)) ?_
      refine ⟨rfl, ?_, rfl⟩
      rw [va_uu]
      refine congrArg (fun z => va_up _ 23 (aJ 58 z)) ?_
      funext j
      unfold vp_updL turnI turnF
      rw [nI_clamp (by omega)]
      by_cases e : j = 0
      · rw [if_pos e, if_pos (by omega), if_neg (by omega)]
      · rw [if_neg e]
        by_cases e2 : j < p
        · rw [if_pos (by omega), if_pos e2, if_pos (by omega)]
        · rw [if_neg (by omega), if_neg e2]
    | succ i ih =>
      intro hi
      refine ab_sound ok_73 [35] 50 ?_
      refine And.intro (fun h_9 => absurd h_9 ((by rw [i32_le, nI_toInt (by omega)]; show ¬ (((i + 1 : Nat)) : Int) ≤ 0; omega))) (fun _ => ?_)
      refine And.intro ((by rw [pk_sub (by omega)]; exact vp_in_nI (by omega) (by omega))) ?_
      refine And.intro (vp_in_nI (by omega) (by omega)) ?_
      refine And.intro (vp_in_nI (by omega) (by omega)) ?_
      refine ab_ev_of (ih (by omega)) (by rw [show nI i = nI (i + 1) - nI 1 from (pk_sub (show 1 ≤ i + 1 by omega)).symm]; rfl) rfl ?_
      rw [va_uu, pk_sub (by omega), nI_clamp (by omega), nI_clamp (by omega)]
      refine congrArg (fun z => va_up _ 23 (aJ 58 z)) ?_
      funext j
      unfold vp_updL turnI
      by_cases e : j = i + 1
      · rw [if_pos e, if_neg (by omega), if_pos (by omega), e]
      · rw [if_neg e]
        by_cases e2 : i + 1 < j ∧ j < p
        · rw [if_pos e2, if_pos (by omega)]
        · rw [if_neg e2, if_neg (by omega)]
  refine ab_ev_of (loop (p - 1) (Nat.le_refl _)) (by rw [← pk_sub hp]; rfl) rfl ?_
  refine congrArg (fun z => va_up _ 23 (aJ 58 z)) ?_
  funext j
  unfold turnI
  rw [if_neg (by omega)]
theorem c_Sums_addTurned (x z : Int32) (q a N k t : Nat) {R : Nat → Nat → Int64} (w : ab_W) (n : Nat) {f : Nat → Int64} (hx : x = nI k) (hz : z = nI t) (hN : N ≤ 60) (hN3 : 3 ≤ N) (hk : k < N) (ht : t < N) (h : ShIs w q N a R) (h0 : w 17 = oSums (nI N) (nI (phi N))) (h2 : w 19 = aJ 60 f) : ab_C X l i_Sums_addTurned [.ref 17, .ref q, .int x, .int z] w n 0 0 (ab_q1 none (va_up w 19 (aJ 60 (gaF (fun j => (t + j) % N) (R k) (phi N) f))) n) := by
  subst hx hz
  obtain ⟨w, rfl⟩ := va_ex2 h2 h0
  have hp := phi_le N hN
  have hlt := phi_lt N hN hN3
  have hS : ∀ F, ShIs (va_up (va_up w 17 (oSums (nI N) (nI (phi N)))) 19 (aJ 60 F)) q N a R := fun F => h.re (by omega)
  have hkp : k * phi N + phi N ≤ 3480 := by
    have h1 : (k + 1) * phi N ≤ 60 * phi N := Nat.mul_le_mul_right _ (by omega)
    rw [Nat.add_mul] at h1
    omega
  refine ab_metV cd_75 om_75 rfl rfl (ab_sound ok_75 [27] 50 ?_)
  rw [va_uu]
  obtain ⟨s0, ⟨g, s1, s2⟩, s3⟩ := h
  refine Exists.intro _ (Exists.intro _ (And.intro s0 (And.intro rfl ?_)))
  refine And.intro (fun h_9 => absurd h_9 (nI_pos (by omega))) (fun _ => ?_)
  refine ab_x_alen0 (ab_dec ok_75 27 rfl) s1 ?_
  refine ab_sound ok_75 [75] 60 ?_
  refine And.intro (fun h_9 => absurd h_9 ((by rw [pk_mul, nI_add]; exact nI_nlt hkp (by omega)))) (fun _ => ?_)
  refine And.intro (fun h_9 => absurd h_9 (nI_pos (by omega))) (fun _ => ?_)
  refine And.intro (fun _ => ?_) (fun h_9 => absurd (nI_lt ht (by omega)) h_9)
  have lp2 : ∀ j, j ≤ phi N → (N - t ≤ j ∨ phi N ≤ j) → ∀ m6 : Nat, ab_Ev X l i_Sums_addTurned 113 [some (.ref 17), some (.ref q), some (.int (nI k)), some (.int (nI t)), some (.ref a), some (.int (nI (k * phi N))), some (.int (nI m6)), some (.int (nI j))] [] (va_up (va_up w 17 (oSums (nI N) (nI (phi N)))) 19 (aJ 60 (gaF (fun j => (t + j) % N) (R k) j f))) n 0 0 (ab_q1 none (va_up (va_up w 17 (oSums (nI N) (nI (phi N)))) 19 (aJ 60 (gaF (fun j => (t + j) % N) (R k) (phi N) f))) n) := by
    refine ab_up (P := fun j => (N - t ≤ j ∨ phi N ≤ j) → ∀ m6 : Nat, ab_Ev X l i_Sums_addTurned 113 [some (.ref 17), some (.ref q), some (.int (nI k)), some (.int (nI t)), some (.ref a), some (.int (nI (k * phi N))), some (.int (nI m6)), some (.int (nI j))] [] (va_up (va_up w 17 (oSums (nI N) (nI (phi N)))) 19 (aJ 60 (gaF (fun j => (t + j) % N) (R k) j f))) n 0 0 (ab_q1 none (va_up (va_up w 17 (oSums (nI N) (nI (phi N)))) 19 (aJ 60 (gaF (fun j => (t + j) % N) (R k) (phi N) f))) n)) (phi N) ?_ (fun j hj ih => ?_)
    · intro _ m6
      refine ab_sound ok_75 [113] 50 ?_
      refine And.intro (fun _ => ?_) (fun h_9 => absurd (nI_le (Nat.le_refl _) (by omega)) h_9)
      exact ⟨rfl, rfl, rfl⟩
    · intro hc m6
      have e1 : (t + j) % N = t + j - N := by rw [Nat.mod_eq_sub_mod (by omega), Nat.mod_eq_of_lt (by omega)]
      refine ab_sound ok_75 [144] 50 ?_
      refine And.intro (fun h_9 => absurd h_9 (nI_ge hj (by omega))) (fun _ => ?_)
      refine And.intro ((by rw [nI_add, pk_sub (by omega)]; exact vp_in_nI (by omega) (by omega))) ?_
      obtain ⟨d0, ⟨g9, d1, d2⟩, -⟩ := hS (gaF (fun j => (t + j) % N) (R k) j f)
      refine ab_x_iaload (ab_dec ok_75 144 rfl) d1 (by rw [nI_add]; exact vp_in_nI (by omega) (by omega)) ?_
      refine ab_sound ok_75 [113] 50 ?_
      refine And.intro ((by rw [nI_add, pk_sub (by omega)]; exact vp_in_nI (by omega) (by omega))) ?_
      refine ab_ev_of (ih (by omega) m6) (by rw [nI_s j]; rfl) rfl ?_
      rw [va_uu, nI_add, nI_add, pk_sub (by omega), nI_clamp (by omega), nI_clamp (by omega), d2 k j hk hj]
      refine congrArg (fun z => va_up _ 19 (aJ 60 z)) ?_
      show _ = vp_updL (gaF (fun j => (t + j) % N) (R k) j f) ((t + j) % N) (gaF (fun j => (t + j) % N) (R k) j f ((t + j) % N) + R k j)
      rw [e1]
  have lp1 : ∀ m, m ≤ phi N → m ≤ N - t → (N - t ≤ m ∨ phi N ≤ m) → ∀ j, j ≤ m → ab_Ev X l i_Sums_addTurned 75 [some (.ref 17), some (.ref q), some (.int (nI k)), some (.int (nI t)), some (.ref a), some (.int (nI (k * phi N))), some (.int (nI m)), some (.int (nI j))] [] (va_up (va_up w 17 (oSums (nI N) (nI (phi N)))) 19 (aJ 60 (gaF (fun j => (t + j) % N) (R k) j f))) n 0 0 (ab_q1 none (va_up (va_up w 17 (oSums (nI N) (nI (phi N)))) 19 (aJ 60 (gaF (fun j => (t + j) % N) (R k) (phi N) f))) n) := by
    intro m hm1 hm2 hm3
    refine ab_up m ?_ (fun j hj ih => ?_)
    · refine ab_sound ok_75 [113] 50 ?_
      refine And.intro (fun _ => ?_) (fun h_9 => absurd (nI_le (Nat.le_refl _) (by omega)) h_9)
      exact lp2 m hm1 hm3 _
    · have e1 : (t + j) % N = t + j := Nat.mod_eq_of_lt (by omega)
      refine ab_sound ok_75 [99] 50 ?_
      refine And.intro (fun h_9 => absurd h_9 (nI_ge hj (by omega))) (fun _ => ?_)
      refine And.intro ((by rw [nI_add]; exact vp_in_nI (by omega) (by omega))) ?_
      obtain ⟨d0, ⟨g9, d1, d2⟩, -⟩ := hS (gaF (fun j => (t + j) % N) (R k) j f)
      refine ab_x_iaload (ab_dec ok_75 99 rfl) d1 (by rw [nI_add]; exact vp_in_nI (by omega) (by omega)) ?_
      refine ab_sound ok_75 [75] 50 ?_
      refine And.intro ((by rw [nI_add]; exact vp_in_nI (by omega) (by omega))) ?_
      refine ab_ev_of ih (by rw [nI_s j]; rfl) rfl ?_
      rw [va_uu, nI_add, nI_add, nI_clamp (by omega), nI_clamp (by omega), d2 k j hk (by omega)]
      refine congrArg (fun z => va_up _ 19 (aJ 60 z)) ?_
      show _ = vp_updL (gaF (fun j => (t + j) % N) (R k) j f) ((t + j) % N) (gaF (fun j => (t + j) % N) (R k) j f ((t + j) % N) + R k j)
      rw [e1]
  by_cases hc : phi N ≤ N - t
  · refine And.intro (fun _ => ?_) (fun h_9 => absurd ((by rw [pk_sub (by omega)]; exact nI_le hc (by omega))) h_9)
    refine ab_ev_of (lp1 (phi N) (Nat.le_refl _) hc (Or.inr (Nat.le_refl _)) 0 (by omega)) (by rw [← pk_mul]; rfl) rfl rfl
  · refine And.intro (fun h_9 => absurd h_9 ((by rw [pk_sub (by omega)]; exact nI_ge (by omega) (by omega)))) (fun _ => ?_)
    refine ab_ev_of (lp1 (N - t) (by omega) (Nat.le_refl _) (Or.inl (Nat.le_refl _)) 0 (by omega)) (by rw [← pk_mul, ← pk_sub (by omega)]; rfl) rfl rfl
end GATHER
