section SUMS
variable {X : ab_X} {l : Launch}
theorem c_Sums_clear (w : ab_W) (n : Nat) {v p : Int32} {f : Nat → Int64} (h0 : w 17 = oSums v p) (h2 : w 19 = aJ 60 f) : ab_C X l i_Sums_clear [.ref 17] w n 0 0 (ab_q1 none (va_up w 19 (aJ 60 (zb 60 f))) n) := by
  obtain ⟨w, rfl⟩ := va_ex2 h2 h0
  refine ab_metV cd_68 om_68 rfl rfl (ab_sound ok_68 [2] 50 ?_)
  have loop : ∀ i, i ≤ 60 → ab_Ev X l i_Sums_clear 2 [some (.ref 17), some (.int (nI i))] [] (va_up (va_up w 17 (oSums v p)) 19 (aJ 60 (zb i f))) n 0 0 (ab_q1 none (va_up (va_up (va_up w 17 (oSums v p)) 19 (aJ 60 f)) 19 (aJ 60 (zb 60 f))) n) := by
    refine ab_up 60 ?_ (fun i hi ih => ?_)
    · refine ab_sound ok_68 [2] 50 ?_
      refine And.intro (fun _ => ?_) (fun h_9 => absurd (nI_le (Nat.le_refl _) (by omega)) h_9)
      exact ⟨rfl, by rw [va_uu], rfl⟩
    · refine ab_sound ok_68 [2] 50 ?_
      refine And.intro (fun h_9 => absurd h_9 (nI_ge hi (by omega))) (fun _ => ?_)
      refine And.intro (vp_in_nI hi (by omega)) ?_
      exact ab_ev_of ih (by rw [← nI_add]; rfl) rfl (by rw [va_uu, nI_clamp (by omega)]; exact congrArg (fun z => va_up _ 19 (aJ 60 z)) (zb_s i f))
  exact ab_ev_of (loop 0 (by omega)) rfl rfl (by rw [zb_0])
theorem c_Sums_add (x : Int32) (k : Nat) (a : Int64) (w : ab_W) (n : Nat) {v p : Int32} {f : Nat → Int64} (hx : x = nI k) (hk : k < 60) (h0 : w 17 = oSums v p) (h2 : w 19 = aJ 60 f) : ab_C X l i_Sums_add [.ref 17, .int x, .long a] w n 0 0 (ab_q1 none (va_up w 19 (aJ 60 (vp_updL f k (f k + a)))) n) := by
  subst hx
  obtain ⟨w, rfl⟩ := va_ex2 h2 h0
  refine ab_metV cd_69 om_69 rfl rfl (ab_sound ok_69 [] 50 ?_)
  refine And.intro (fun h_9 => absurd h_9 (nI_pos (by omega))) (fun _ => ?_)
  refine And.intro (fun h_9 => absurd h_9 (nI_ge hk (by omega))) (fun _ => ?_)
  refine And.intro (vp_in_nI hk (by omega)) ?_
  refine And.intro (vp_in_nI hk (by omega)) ?_
  exact ⟨rfl, by rw [nI_clamp (by omega), va_uu], rfl⟩
/-- a row that is being put at place b -/
def stF (b i : Nat) (f g : Nat → Int64) : Nat → Int64 := fun j => if b ≤ j ∧ j < b + i then f (j - b) else g j
theorem stF_0 (b : Nat) (f g : Nat → Int64) : stF b 0 f g = g := by
  funext j
  unfold stF
  rw [if_neg (by omega)]
theorem stF_s (b i : Nat) (f g : Nat → Int64) : vp_updL (stF b i f g) (b + i) (f i) = stF b (i + 1) f g := by
  funext j
  unfold vp_updL stF
  by_cases h : j = b + i
  · rw [if_pos h, if_pos (by omega), h]
    congr 1
    omega
  · rw [if_neg h]
    by_cases h2 : b ≤ j ∧ j < b + i
    · rw [if_pos h2, if_pos (by omega)]
    · rw [if_neg h2, if_neg (by omega)]
theorem c_Sums_store_43 (k p L : Nat) (w : ab_W) (n : Nat) {v : Int32} {f g : Nat → Int64} (hk : k < 60) (hp : p ≤ 60) (hL : k * p + p ≤ L) (hL2 : L < 4000) (h0 : w 17 = oSums v (nI p)) (h2 : w 19 = aJ 60 f) (h3 : w 43 = aJ L g) : ab_C X l i_Sums_store [.ref 17, .ref 43, .int (nI k)] w n 0 0 (ab_q1 none (va_up w 43 (aJ L (stF (k * p) p f g))) n) := by
  have hkp : k * p ≤ 59 * 60 := Nat.mul_le_mul (by omega) hp
  obtain ⟨w, rfl⟩ := va_ex3 h3 h2 h0
  refine ab_metV cd_71 om_71 rfl rfl (ab_sound ok_71 [2] 50 ?_)
  have loop : ∀ i, i ≤ p → ab_Ev X l i_Sums_store 2 [some (.ref 17), some (.ref 43), some (.int (nI k)), some (.int (nI i))] [] (va_up (va_up (va_up w 17 (oSums v (nI p))) 19 (aJ 60 f)) 43 (aJ L (stF (k * p) i f g))) n 0 0 (ab_q1 none (va_up (va_up (va_up (va_up w 17 (oSums v (nI p))) 19 (aJ 60 f)) 43 (aJ L g)) 43 (aJ L (stF (k * p) p f g))) n) := by
    refine ab_up p ?_ (fun i hi ih => ?_)
    · refine ab_sound ok_71 [2] 50 ?_
      refine And.intro (fun _ => ?_) (fun h_9 => absurd (nI_le (Nat.le_refl _) (by omega)) h_9)
      exact ⟨rfl, by rw [va_uu], rfl⟩
    · refine ab_sound ok_71 [2] 50 ?_
      refine And.intro (fun h_9 => absurd h_9 (nI_ge hi (by omega))) (fun _ => ?_)
      refine And.intro (fun h_9 => absurd h_9 (nI_pos (by omega))) (fun _ => ?_)
      refine And.intro (fun h_9 => absurd h_9 ((by rw [pk_mul, nI_add]; exact nI_ge (by omega) (by omega)))) (fun _ => ?_)
      refine And.intro (vp_in_nI (show i < 60 by omega) (by omega)) ?_
      refine And.intro ((by rw [pk_mul, nI_add]; exact vp_in_nI (by omega) (by omega))) ?_
      refine ab_ev_of ih (by rw [nI_s i]; rfl) rfl ?_
      rw [va_uu, pk_mul, nI_add, nI_clamp (by omega), nI_clamp (by omega)]
      exact congrArg (fun z => va_up _ _ (aJ L z)) (stF_s (k * p) i f g)
  exact ab_ev_of (loop 0 (by omega)) rfl rfl (by rw [stF_0])
theorem c_Sums_store_28 (k p L : Nat) (w : ab_W) (n : Nat) {v : Int32} {f g : Nat → Int64} (hk : k < 60) (hp : p ≤ 60) (hL : k * p + p ≤ L) (hL2 : L < 4000) (h0 : w 17 = oSums v (nI p)) (h2 : w 19 = aJ 60 f) (h3 : w 28 = aJ L g) : ab_C X l i_Sums_store [.ref 17, .ref 28, .int (nI k)] w n 0 0 (ab_q1 none (va_up w 28 (aJ L (stF (k * p) p f g))) n) := by
  have hkp : k * p ≤ 59 * 60 := Nat.mul_le_mul (by omega) hp
  obtain ⟨w, rfl⟩ := va_ex3 h3 h2 h0
  refine ab_metV cd_71 om_71 rfl rfl (ab_sound ok_71 [2] 50 ?_)
  have loop : ∀ i, i ≤ p → ab_Ev X l i_Sums_store 2 [some (.ref 17), some (.ref 28), some (.int (nI k)), some (.int (nI i))] [] (va_up (va_up (va_up w 17 (oSums v (nI p))) 19 (aJ 60 f)) 28 (aJ L (stF (k * p) i f g))) n 0 0 (ab_q1 none (va_up (va_up (va_up (va_up w 17 (oSums v (nI p))) 19 (aJ 60 f)) 28 (aJ L g)) 28 (aJ L (stF (k * p) p f g))) n) := by
    refine ab_up p ?_ (fun i hi ih => ?_)
    · refine ab_sound ok_71 [2] 50 ?_
      refine And.intro (fun _ => ?_) (fun h_9 => absurd (nI_le (Nat.le_refl _) (by omega)) h_9)
      exact ⟨rfl, by rw [va_uu], rfl⟩
    · refine ab_sound ok_71 [2] 50 ?_
      refine And.intro (fun h_9 => absurd h_9 (nI_ge hi (by omega))) (fun _ => ?_)
      refine And.intro (fun h_9 => absurd h_9 (nI_pos (by omega))) (fun _ => ?_)
      refine And.intro (fun h_9 => absurd h_9 ((by rw [pk_mul, nI_add]; exact nI_ge (by omega) (by omega)))) (fun _ => ?_)
      refine And.intro (vp_in_nI (show i < 60 by omega) (by omega)) ?_
      refine And.intro ((by rw [pk_mul, nI_add]; exact vp_in_nI (by omega) (by omega))) ?_
      refine ab_ev_of ih (by rw [nI_s i]; rfl) rfl ?_
      rw [va_uu, pk_mul, nI_add, nI_clamp (by omega), nI_clamp (by omega)]
      exact congrArg (fun z => va_up _ _ (aJ L z)) (stF_s (k * p) i f g)
  exact ab_ev_of (loop 0 (by omega)) rfl rfl (by rw [stF_0])
theorem c_Sums_store_22 (k p L : Nat) (w : ab_W) (n : Nat) {v : Int32} {f g : Nat → Int64} (hk : k < 60) (hp : p ≤ 60) (hL : k * p + p ≤ L) (hL2 : L < 4000) (h0 : w 17 = oSums v (nI p)) (h2 : w 19 = aJ 60 f) (h3 : w 22 = aJ L g) : ab_C X l i_Sums_store [.ref 17, .ref 22, .int (nI k)] w n 0 0 (ab_q1 none (va_up w 22 (aJ L (stF (k * p) p f g))) n) := by
  have hkp : k * p ≤ 59 * 60 := Nat.mul_le_mul (by omega) hp
  obtain ⟨w, rfl⟩ := va_ex3 h3 h2 h0
  refine ab_metV cd_71 om_71 rfl rfl (ab_sound ok_71 [2] 50 ?_)
  have loop : ∀ i, i ≤ p → ab_Ev X l i_Sums_store 2 [some (.ref 17), some (.ref 22), some (.int (nI k)), some (.int (nI i))] [] (va_up (va_up (va_up w 17 (oSums v (nI p))) 19 (aJ 60 f)) 22 (aJ L (stF (k * p) i f g))) n 0 0 (ab_q1 none (va_up (va_up (va_up (va_up w 17 (oSums v (nI p))) 19 (aJ 60 f)) 22 (aJ L g)) 22 (aJ L (stF (k * p) p f g))) n) := by
    refine ab_up p ?_ (fun i hi ih => ?_)
    · refine ab_sound ok_71 [2] 50 ?_
      refine And.intro (fun _ => ?_) (fun h_9 => absurd (nI_le (Nat.le_refl _) (by omega)) h_9)
      exact ⟨rfl, by rw [va_uu], rfl⟩
    · refine ab_sound ok_71 [2] 50 ?_
      refine And.intro (fun h_9 => absurd h_9 (nI_ge hi (by omega))) (fun _ => ?_)
      refine And.intro (fun h_9 => absurd h_9 (nI_pos (by omega))) (fun _ => ?_)
      refine And.intro (fun h_9 => absurd h_9 ((by rw [pk_mul, nI_add]; exact nI_ge (by omega) (by omega)))) (fun _ => ?_)
      refine And.intro (vp_in_nI (show i < 60 by omega) (by omega)) ?_
      refine And.intro ((by rw [pk_mul, nI_add]; exact vp_in_nI (by omega) (by omega))) ?_
      refine ab_ev_of ih (by rw [nI_s i]; rfl) rfl ?_
      rw [va_uu, pk_mul, nI_add, nI_clamp (by omega), nI_clamp (by omega)]
      exact congrArg (fun z => va_up _ _ (aJ L z)) (stF_s (k * p) i f g)
  exact ab_ev_of (loop 0 (by omega)) rfl rfl (by rw [stF_0])
theorem c_Sums_store_32 (k p L : Nat) (w : ab_W) (n : Nat) {v : Int32} {f g : Nat → Int64} (hk : k < 60) (hp : p ≤ 60) (hL : k * p + p ≤ L) (hL2 : L < 4000) (h0 : w 17 = oSums v (nI p)) (h2 : w 19 = aJ 60 f) (h3 : w 32 = aJ L g) : ab_C X l i_Sums_store [.ref 17, .ref 32, .int (nI k)] w n 0 0 (ab_q1 none (va_up w 32 (aJ L (stF (k * p) p f g))) n) := by
  have hkp : k * p ≤ 59 * 60 := Nat.mul_le_mul (by omega) hp
  obtain ⟨w, rfl⟩ := va_ex3 h3 h2 h0
  refine ab_metV cd_71 om_71 rfl rfl (ab_sound ok_71 [2] 50 ?_)
  have loop : ∀ i, i ≤ p → ab_Ev X l i_Sums_store 2 [some (.ref 17), some (.ref 32), some (.int (nI k)), some (.int (nI i))] [] (va_up (va_up (va_up w 17 (oSums v (nI p))) 19 (aJ 60 f)) 32 (aJ L (stF (k * p) i f g))) n 0 0 (ab_q1 none (va_up (va_up (va_up (va_up w 17 (oSums v (nI p))) 19 (aJ 60 f)) 32 (aJ L g)) 32 (aJ L (stF (k * p) p f g))) n) := by
    refine ab_up p ?_ (fun i hi ih => ?_)
    · refine ab_sound ok_71 [2] 50 ?_
      refine And.intro (fun _ => ?_) (fun h_9 => absurd (nI_le (Nat.le_refl _) (by omega)) h_9)
      exact ⟨rfl, by rw [va_uu], rfl⟩
    · refine ab_sound ok_71 [2] 50 ?_
      refine And.intro (fun h_9 => absurd h_9 (nI_ge hi (by omega))) (fun _ => ?_)
      refine And.intro (fun h_9 => absurd h_9 (nI_pos (by omega))) (fun _ => ?_)
      refine And.intro (fun h_9 => absurd h_9 ((by rw [pk_mul, nI_add]; exact nI_ge (by omega) (by omega)))) (fun _ => ?_)
      refine And.intro (vp_in_nI (show i < 60 by omega) (by omega)) ?_
      refine And.intro ((by rw [pk_mul, nI_add]; exact vp_in_nI (by omega) (by omega))) ?_
      refine ab_ev_of ih (by rw [nI_s i]; rfl) rfl ?_
      rw [va_uu, pk_mul, nI_add, nI_clamp (by omega), nI_clamp (by omega)]
      exact congrArg (fun z => va_up _ _ (aJ L z)) (stF_s (k * p) i f g)
  exact ab_ev_of (loop 0 (by omega)) rfl rfl (by rw [stF_0])
/-- one step of reducing: the power b + p goes -/
def redS (p : Nat) (c : Nat → Int64) (b : Nat) (f : Nat → Int64) : Nat → Int64 := fun j => if b ≤ j ∧ j ≤ b + p then f j - f (b + p) * c (j - b) else f j
def redD (p : Nat) (c : Nat → Int64) : Nat → (Nat → Int64) → (Nat → Int64)
  | 0, f => f
  | t + 1, f => redD p c t (redS p c t f)
def redI (c : Nat → Int64) (b i : Nat) (a : Int64) (f : Nat → Int64) : Nat → Int64 := fun j => if b ≤ j ∧ j < b + i then f j - a * c (j - b) else f j
theorem redI_0 (c : Nat → Int64) (b : Nat) (a : Int64) (f : Nat → Int64) : redI c b 0 a f = f := by
  funext j
  unfold redI
  rw [if_neg (by omega)]
theorem redI_s (c : Nat → Int64) (b i : Nat) (a : Int64) (f : Nat → Int64) : vp_updL (redI c b i a f) (b + i) (redI c b i a f (b + i) - a * c i) = redI c b (i + 1) a f := by
  funext j
  unfold vp_updL redI
  by_cases h : j = b + i
  · rw [if_pos h, if_neg (by omega), if_pos (by omega), h]
    rw [show b + i - b = i by omega]
  · rw [if_neg h]
    by_cases h2 : b ≤ j ∧ j < b + i
    · rw [if_pos h2, if_pos (by omega)]
    · rw [if_neg h2, if_neg (by omega)]
theorem redI_z (c : Nat → Int64) (b i : Nat) (f : Nat → Int64) : redI c b i 0 f = f := by
  funext j
  unfold redI
  split
  · rw [Int64.zero_mul, Int64.sub_zero]
  · rfl
theorem redI_e (p : Nat) (c : Nat → Int64) (b : Nat) (f : Nat → Int64) : redI c b (p + 1) (f (b + p)) f = redS p c b f := by
  funext j
  unfold redI redS
  by_cases h : b ≤ j ∧ j ≤ b + p
  · rw [if_pos h, if_pos (by omega)]
  · rw [if_neg h, if_neg (by omega)]
theorem c_Sums_reduce (N p : Nat) (w : ab_W) (n : Nat) {f c : Nat → Int64} (hp : 1 ≤ p) (hpN : p ≤ N) (hN : N ≤ 60) (hp2 : p ≤ 58) (h0 : w 17 = oSums (nI N) (nI p)) (h1 : w 18 = aJ 59 c) (h2 : w 19 = aJ 60 f) : ab_C X l i_Sums_reduce [.ref 17] w n 0 0 (ab_q1 none (va_up w 19 (aJ 60 (redD p c (N - p) f))) n) := by
  obtain ⟨w, rfl⟩ := va_ex3 h2 h1 h0
  refine ab_metV cd_70 om_70 rfl rfl (ab_sound ok_70 [7] 50 ?_)
  have outer : ∀ t, t ≤ N - p → ∀ (f : Nat → Int64) (l2 l3 l4 : Option Value), ab_Ev X l i_Sums_reduce 7 [some (.ref 17), some (.int (nI (p + t) - nI 1)), l2, l3, l4] [] (va_up (va_up (va_up w 17 (oSums (nI N) (nI p))) 18 (aJ 59 c)) 19 (aJ 60 f)) n 0 0 (ab_q1 none (va_up (va_up (va_up w 17 (oSums (nI N) (nI p))) 18 (aJ 59 c)) 19 (aJ 60 (redD p c t f))) n) := by
    intro t
    induction t with
    | zero =>
      intro _ f l2 l3 l4
      refine ab_sound ok_70 [7] 50 ?_
      refine And.intro (fun _ => ?_) (fun h_9 => absurd ((by rw [pk_sub (by omega)]; exact nI_lt (by omega) (by omega))) h_9)
      exact ⟨rfl, rfl, rfl⟩
    | succ b ih =>
      intro hb f l2 l3 l4
      refine ab_sound ok_70 [7, 25] 50 ?_
      refine And.intro (fun h_9 => absurd h_9 ((by rw [pk_sub (by omega)]; exact nI_nlt (by omega) (by omega)))) (fun _ => ?_)
      refine And.intro ((by rw [pk_sub (by omega)]; exact vp_in_nI (by omega) (by omega))) ?_
      have inner : ∀ i, i ≤ p + 1 → ab_Ev X l i_Sums_reduce 25 [some (.ref 17), some (.int (nI (p + b))), some (.long (f (b + p))), none, some (.int (nI i))] [] (va_up (va_up (va_up w 17 (oSums (nI N) (nI p))) 18 (aJ 59 c)) 19 (aJ 60 (redI c b i (f (b + p)) f))) n 0 0 (ab_q1 none (va_up (va_up (va_up w 17 (oSums (nI N) (nI p))) 18 (aJ 59 c)) 19 (aJ 60 (redD p c (b + 1) f))) n) := by
        have last : ∀ (g : Nat → Int64) (i : Nat), g = redS p c b f → ab_Ev X l i_Sums_reduce 72 [some (.ref 17), some (.int (nI (p + b))), some (.long (f (b + p))), none, some (.int (nI i))] [] (va_up (va_up (va_up w 17 (oSums (nI N) (nI p))) 18 (aJ 59 c)) 19 (aJ 60 g)) n 0 0 (ab_q1 none (va_up (va_up (va_up w 17 (oSums (nI N) (nI p))) 18 (aJ 59 c)) 19 (aJ 60 (redD p c (b + 1) f))) n) := by
          intro g i hg
          subst hg
          refine ab_sound ok_70 [7] 50 ?_
          exact ih (by omega) _ _ _ _
        refine ab_up (p + 1) ?_ (fun i hi ih2 => ?_)
        · refine ab_sound ok_70 [25, 72] 50 ?_
          refine And.intro (fun _ => ?_) (fun h_9 => absurd (nI_lt (by omega) (by omega)) h_9)
          exact last _ _ (redI_e p c b f)
        · refine ab_sound ok_70 [25, 72] 50 ?_
          refine And.intro (fun h_9 => absurd h_9 (nI_nlt (by omega) (by omega))) (fun _ => ?_)
          refine And.intro (fun hz => ?_) (fun hz => ?_)
          · rw [lz_eq] at hz
            exact last _ _ (by rw [← redI_e, hz, redI_z, redI_z])
          · refine And.intro ((by rw [pk_sub (by omega), nI_add]; exact vp_in_nI (by omega) (by omega))) ?_
            refine And.intro (vp_in_nI (by omega) (by omega)) ?_
            refine And.intro ((by rw [pk_sub (by omega), nI_add]; exact vp_in_nI (by omega) (by omega))) ?_
            refine ab_ev_of ih2 (by rw [nI_s i]; rfl) rfl ?_
            rw [va_uu, pk_sub (by omega), nI_add, nI_clamp (by omega), nI_clamp (by omega), show p + b - p + i = b + i by omega]
            exact congrArg (fun z => va_up _ 19 (aJ 60 z)) (redI_s c b i (f (b + p)) f)
      refine ab_ev_of (inner 0 (by omega)) ?_ rfl (by rw [redI_0])
      rw [pk_sub (by omega), nI_clamp (by omega), show p + (b + 1) - 1 = p + b by omega, Nat.add_comm p b]
      rfl
  have := outer (N - p) (Nat.le_refl _) f none none none
  rw [show p + (N - p) = N by omega] at this
  refine ab_ev_of ?_ rfl rfl rfl
  rw [va_uu]
  exact this
end SUMS
