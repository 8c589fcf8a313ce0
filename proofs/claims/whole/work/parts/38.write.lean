section WRITE
variable {X : ab_X} {l : Launch}
theorem prow_step (p : Nat) (c : List Int) (hp : 1 ≤ p) (k : Nat) : prow p c (k + 1) = stepRow p c (prow p c k) := by
  by_cases h : p ≤ k + 1
  · exact prow_hi p c h
  · rw [prow_lo p c (show k + 1 < p by omega), prow_lo p c (show k < p by omega)]
    unfold stepRow unitRow
    refine List.map_congr_left (fun i hi => ?_)
    have hi2 : i < p := List.mem_range.mp hi
    have e1 : ((List.range p).map fun i => if i = k then (1 : Int) else 0).getD (p - 1) 0 = 0 := by
      rw [List.getD_eq_getElem?_getD, List.getElem?_map, List.getElem?_range (by omega)]
      show (if p - 1 = k then (1 : Int) else 0) = 0
      rw [if_neg (by omega)]
    rw [e1]
    by_cases h0 : 0 < i
    · rw [if_pos h0]
      have e2 : ((List.range p).map fun i => if i = k then (1 : Int) else 0).getD (i - 1) 0 = if i - 1 = k then 1 else 0 := by
        rw [List.getD_eq_getElem?_getD, List.getElem?_map, List.getElem?_range (by omega)]
        rfl
      rw [e2]
      by_cases e : i = k + 1
      · rw [if_pos e, if_pos (by omega)]
        omega
      · rw [if_neg e, if_neg (by omega)]
        omega
    · rw [if_neg h0, if_neg (by omega)]
      omega
/-- small whole numbers, one by one: so that the kernel goes on with numbers, not with what they come from -/
def nrm (x : Int) (k : Int → Bool) : Bool := if x = 0 then k 0 else if x = 1 then k 1 else if x = -1 then k (-1) else if x = 2 then k 2 else if x = -2 then k (-2) else false
def nrmL : List Int → (List Int → Bool) → Bool
  | [], k => k []
  | x :: r, k => nrm x (fun x' => nrmL r (fun r' => k (x' :: r')))
theorem nrm_spec {x : Int} {k : Int → Bool} (h : nrm x k = true) : k x = true ∧ -3 < x ∧ x < 3 := by
  unfold nrm at h
  split at h
  · rename_i e; rw [e]; exact ⟨h, by omega, by omega⟩
  · split at h
    · rename_i e; rw [e]; exact ⟨h, by omega, by omega⟩
    · split at h
      · rename_i e; rw [e]; exact ⟨h, by omega, by omega⟩
      · split at h
        · rename_i e; rw [e]; exact ⟨h, by omega, by omega⟩
        · split at h
          · rename_i e; rw [e]; exact ⟨h, by omega, by omega⟩
          · cases h
theorem nrmL_spec : ∀ {r : List Int} {k : List Int → Bool}, nrmL r k = true → k r = true ∧ ∀ x ∈ r, -3 < x ∧ x < 3
  | [], k, h => ⟨h, fun x hx => by cases hx⟩
  | x :: r, k, h => by
    unfold nrmL at h
    obtain ⟨h1, h2⟩ := nrm_spec h
    obtain ⟨h3, h4⟩ := nrmL_spec h1
    refine ⟨h3, fun y hy => ?_⟩
    rcases List.mem_cons.mp hy with rfl | hy
    · exact h2
    · exact h4 y hy
def bndS (p : Nat) (c : List Int) : Nat → List Int → Bool
  | 0, r => decide (r = unitRow p 0)
  | m + 1, r => nrmL (stepRow p c r) (fun r' => bndS p c m r')
theorem bndS_spec (p : Nat) (c : List Int) (hp : 1 ≤ p) : ∀ (m k : Nat), bndS p c m (prow p c k) = true → prow p c (k + m) = unitRow p 0 ∧ ∀ j, j < m → ∀ x ∈ prow p c (k + 1 + j), -3 < x ∧ x < 3 := by
  intro m
  induction m with
  | zero => intro k h; exact ⟨of_decide_eq_true h, fun j hj => by omega⟩
  | succ m ih =>
    intro k h
    unfold bndS at h
    rw [← prow_step p c hp] at h
    obtain ⟨h1, h2⟩ := nrmL_spec h
    obtain ⟨h3, h4⟩ := ih (k + 1) h1
    refine ⟨by rw [show k + (m + 1) = k + 1 + m by omega]; exact h3, fun j hj => ?_⟩
    cases j with
    | zero => exact h2
    | succ j =>
      have := h4 j (by omega)
      rw [show k + 1 + 1 + j = k + 1 + (j + 1) by omega] at this
      exact this
theorem bnd_ok : ∀ N, N ≤ 60 → 3 ≤ N → nrmL (least N) (fun c => bndS (phi N) c N (unitRow (phi N) 0)) = true := by decide +kernel
theorem prow_N (N : Nat) (hN : N ≤ 60) (hN3 : 3 ≤ N) : prow (phi N) (least N) N = unitRow (phi N) 0 := by
  have hp := phi_ge N hN hN3
  have h := bndS_spec (phi N) (least N) (by omega) N 0 (nrmL_spec (bnd_ok N hN hN3)).1
  rw [Nat.zero_add] at h
  exact h.1
theorem pw_small (N k i : Nat) (hN : N ≤ 60) (hN3 : 3 ≤ N) (hk : k < N) : -3 < pw N k i ∧ pw N k i < 3 := by
  have hp := phi_ge N hN hN3
  have h := (bndS_spec (phi N) (least N) (by omega) N 0 (nrmL_spec (bnd_ok N hN hN3)).1).2
  unfold pw
  rw [List.getD_eq_getElem?_getD]
  cases hq : (prow (phi N) (least N) k)[i]? with
  | none => decide
  | some v =>
    cases k with
    | zero =>
      have hm := List.mem_of_getElem? hq
      have hm : v ∈ unitRow (phi N) 0 := hm
      unfold unitRow at hm
      obtain ⟨j, -, hj⟩ := List.mem_map.mp hm
      rw [← hj]
      show -3 < (if j = 0 then (1 : Int) else 0) ∧ (if j = 0 then (1 : Int) else 0) < 3
      split <;> decide
    | succ k =>
      have := h k (by omega) v (by rw [show 0 + 1 + k = k + 1 by omega]; exact List.mem_of_getElem? hq)
      exact this
theorem ofInt_wide {z : Int} (h1 : -3 < z) (h2 : z < 3) : (Int32.ofInt z).toInt64 = Int64.ofInt z := by
  apply Int64.toInt.inj
  rw [Int32.toInt_toInt64, Int32.toInt_ofInt_of_le (by omega) (by omega), Int64.toInt_ofInt_of_le (by omega) (by omega)]
/-- f 0 + f 1 + .. -/
def sumL (f : Nat → Int64) : Nat → Int64
  | 0 => 0
  | k + 1 => sumL f k + f k
/-- number i of a sum of powers -/
def redV (N : Nat) (raw : Nat → Int64) (i : Nat) : Int64 := sumL (fun k => raw k * Int64.ofInt (pw N k i)) N
/-- a row written at place b: its numbers, then noughts -/
def wrF (N b i : Nat) (raw g : Nat → Int64) : Nat → Int64 := fun j => if b ≤ j ∧ j < b + i then (if j < b + phi N then redV N raw (j - b) else 0) else g j
theorem wrF_0 (N b : Nat) (raw g : Nat → Int64) : wrF N b 0 raw g = g := by
  funext j
  unfold wrF
  rw [if_neg (by omega)]
theorem wrF_s (N b i : Nat) (raw g : Nat → Int64) (v : Int64) (hv : v = if i < phi N then redV N raw i else 0) : vp_updL (wrF N b i raw g) (b + i) v = wrF N b (i + 1) raw g := by
  funext j
  unfold vp_updL wrF
  by_cases h : j = b + i
  · rw [if_pos h, if_pos (by omega), hv, h]
    by_cases h2 : i < phi N
    · rw [if_pos h2, if_pos (by omega), show b + i - b = i by omega]
    · rw [if_neg h2, if_neg (by omega)]
  · rw [if_neg h]
    by_cases h2 : b ≤ j ∧ j < b + i
    · rw [if_pos h2, if_pos (show b ≤ j ∧ j < b + (i + 1) by omega)]
    · rw [if_neg h2, if_neg (show ¬ (b ≤ j ∧ j < b + (i + 1)) by omega)]
theorem c_Mod_write_117 (x : Int32) (N b L : Nat) (w : ab_W) (n : Nat) {s : Nat → Int32} {wd tn : Int64} {h : Nat → Int32} {raw g : Nat → Int64} (hx : x = nI b) (hN : N ≤ 60) (hN3 : 3 ≤ N) (hb : b + 60 ≤ L) (hL : L ≤ 3600) (hs : s 38 = nI N) (hs2 : s 39 = nI (phi N)) (h0 : w 90 = oMod s wd tn) (h1 : w 113 = aI 3600 h) (hh : PowIs N h) (h2 : w 114 = aJ 60 raw) (h3 : w 117 = aJ L g) : ab_C X l i_Mod_write [.ref 90, .ref 117, .int x] w n 0 0 (ab_q1 none (va_up w 117 (aJ L (wrF N b 60 raw g))) n) := by
  subst hx
  obtain ⟨w, rfl⟩ := va_ex4 h3 h2 h1 h0
  have hp58 := phi_le N hN
  refine ab_metV cd_202 om_202 rfl rfl (ab_sound ok_202 [2] 50 ?_)
  rw [va_uu]
  have lp2 : ∀ (i : Nat) (l4 l5 l6 : Option Value), i ≤ 60 → phi N ≤ i → ab_Ev X l i_Mod_write 75 [some (.ref 90), some (.ref 117), some (.int (nI b)), some (.int (nI i)), l4, l5, l6] [] (va_up (va_up (va_up (va_up w 90 (oMod s wd tn)) 113 (aI 3600 h)) 114 (aJ 60 raw)) 117 (aJ L (wrF N b i raw g))) n 0 0 (ab_q1 none (va_up (va_up (va_up (va_up w 90 (oMod s wd tn)) 113 (aI 3600 h)) 114 (aJ 60 raw)) 117 (aJ L (wrF N b 60 raw g))) n) := by
    intro i l4 l5 l6 hi
    refine ab_up (P := fun i => phi N ≤ i → ab_Ev X l i_Mod_write 75 [some (.ref 90), some (.ref 117), some (.int (nI b)), some (.int (nI i)), l4, l5, l6] [] (va_up (va_up (va_up (va_up w 90 (oMod s wd tn)) 113 (aI 3600 h)) 114 (aJ 60 raw)) 117 (aJ L (wrF N b i raw g))) n 0 0 (ab_q1 none (va_up (va_up (va_up (va_up w 90 (oMod s wd tn)) 113 (aI 3600 h)) 114 (aJ 60 raw)) 117 (aJ L (wrF N b 60 raw g))) n)) 60 ?_ (fun i hi ih => ?_) i hi
    · intro _
      refine ab_sound ok_202 [75] 50 ?_
      refine And.intro (fun _ => ?_) (fun h_9 => absurd (nI_le (Nat.le_refl _) (by omega)) h_9)
      exact ⟨rfl, rfl, rfl⟩
    · intro hpi
      refine ab_sound ok_202 [75] 50 ?_
      refine And.intro (fun h_9 => absurd h_9 (nI_ge hi (by omega))) (fun _ => ?_)
      refine And.intro ((by rw [nI_add]; exact vp_in_nI (by omega) (by omega))) ?_
      refine ab_ev_of (ih (by omega)) (by rw [nI_s i]; rfl) rfl ?_
      rw [va_uu, nI_add, nI_clamp (by omega)]
      exact congrArg (fun z => va_up _ 117 (aJ L z)) (wrF_s N b i raw g _ (by rw [if_neg (by omega)]; rfl))
  have lp1 : ∀ (i : Nat), i ≤ phi N → ∀ (l4 l5 l6 : Option Value), ab_Ev X l i_Mod_write 2 [some (.ref 90), some (.ref 117), some (.int (nI b)), some (.int (nI i)), l4, l5, l6] [] (va_up (va_up (va_up (va_up w 90 (oMod s wd tn)) 113 (aI 3600 h)) 114 (aJ 60 raw)) 117 (aJ L (wrF N b i raw g))) n 0 0 (ab_q1 none (va_up (va_up (va_up (va_up w 90 (oMod s wd tn)) 113 (aI 3600 h)) 114 (aJ 60 raw)) 117 (aJ L (wrF N b 60 raw g))) n) := by
    refine ab_up (phi N) ?_ (fun i hi ih => ?_)
    · intro l4 l5 l6
      refine ab_sound ok_202 [2, 75] 50 ?_
      refine And.intro (fun _ => ?_) (fun h_9 => absurd ((by rw [hs2]; exact nI_le (Nat.le_refl _) (by omega))) h_9)
      exact ab_ev_of (lp2 (phi N) l4 l5 l6 (by omega) (Nat.le_refl _)) (by rw [← hs2]; rfl) rfl rfl
    · intro l4 l5 l6
      refine ab_sound ok_202 [2, 16] 50 ?_
      refine And.intro (fun h_9 => absurd h_9 ((by rw [hs2]; exact nI_ge hi (by omega)))) (fun _ => ?_)
      have inn : ∀ k, k ≤ N → ab_Ev X l i_Mod_write 16 [some (.ref 90), some (.ref 117), some (.int (nI b)), some (.int (nI i)), some (.long (sumL (fun k => raw k * Int64.ofInt (pw N k i)) k)), none, some (.int (nI k))] [] (va_up (va_up (va_up (va_up w 90 (oMod s wd tn)) 113 (aI 3600 h)) 114 (aJ 60 raw)) 117 (aJ L (wrF N b i raw g))) n 0 0 (ab_q1 none (va_up (va_up (va_up (va_up w 90 (oMod s wd tn)) 113 (aI 3600 h)) 114 (aJ 60 raw)) 117 (aJ L (wrF N b 60 raw g))) n) := by
        refine ab_up N ?_ (fun k hk ih2 => ?_)
        · refine ab_sound ok_202 [2, 16] 50 ?_
          refine And.intro (fun _ => ?_) (fun h_9 => absurd ((by rw [hs]; exact nI_le (Nat.le_refl _) (by omega))) h_9)
          refine And.intro ((by rw [nI_add]; exact vp_in_nI (by omega) (by omega))) ?_
          refine ab_ev_of (ih (some (.long (sumL (fun k => raw k * Int64.ofInt (pw N k i)) N))) none (some (.int (nI N)))) (by rw [nI_s i]; rfl) rfl ?_
          rw [va_uu, nI_add, nI_clamp (by omega)]
          exact congrArg (fun z => va_up _ 117 (aJ L z)) (wrF_s N b i raw g _ (by rw [if_pos hi]; rfl))
        · refine ab_sound ok_202 [2, 16] 50 ?_
          refine And.intro (fun h_9 => absurd h_9 ((by rw [hs]; exact nI_ge hk (by omega)))) (fun _ => ?_)
          refine And.intro (vp_in_nI (by omega) (by omega)) ?_
          refine And.intro ((by rw [pk_mul, nI_add]; exact vp_in_nI (by omega) (by omega))) ?_
          refine ab_ev_of ih2 ?_ rfl rfl
          have hs9 := pw_small N k i hN hN3 hk
          rw [nI_s k, pk_mul, nI_add, nI_clamp (by omega), nI_clamp (by omega), hh k i hk hi, ofInt_wide hs9.1 hs9.2]
          rfl
      exact ab_ev_of (inn 0 (by omega)) rfl rfl rfl
  exact ab_ev_of (lp1 0 (by omega) none none none) rfl rfl (by rw [wrF_0])
theorem c_Mod_write_118 (x : Int32) (N b L : Nat) (w : ab_W) (n : Nat) {s : Nat → Int32} {wd tn : Int64} {h : Nat → Int32} {raw g : Nat → Int64} (hx : x = nI b) (hN : N ≤ 60) (hN3 : 3 ≤ N) (hb : b + 60 ≤ L) (hL : L ≤ 3600) (hs : s 38 = nI N) (hs2 : s 39 = nI (phi N)) (h0 : w 90 = oMod s wd tn) (h1 : w 113 = aI 3600 h) (hh : PowIs N h) (h2 : w 114 = aJ 60 raw) (h3 : w 118 = aJ L g) : ab_C X l i_Mod_write [.ref 90, .ref 118, .int x] w n 0 0 (ab_q1 none (va_up w 118 (aJ L (wrF N b 60 raw g))) n) := by
  subst hx
  obtain ⟨w, rfl⟩ := va_ex4 h3 h2 h1 h0
  have hp58 := phi_le N hN
  refine ab_metV cd_202 om_202 rfl rfl (ab_sound ok_202 [2] 50 ?_)
  rw [va_uu]
  have lp2 : ∀ (i : Nat) (l4 l5 l6 : Option Value), i ≤ 60 → phi N ≤ i → ab_Ev X l i_Mod_write 75 [some (.ref 90), some (.ref 118), some (.int (nI b)), some (.int (nI i)), l4, l5, l6] [] (va_up (va_up (va_up (va_up w 90 (oMod s wd tn)) 113 (aI 3600 h)) 114 (aJ 60 raw)) 118 (aJ L (wrF N b i raw g))) n 0 0 (ab_q1 none (va_up (va_up (va_up (va_up w 90 (oMod s wd tn)) 113 (aI 3600 h)) 114 (aJ 60 raw)) 118 (aJ L (wrF N b 60 raw g))) n) := by
    intro i l4 l5 l6 hi
    refine ab_up (P := fun i => phi N ≤ i → ab_Ev X l i_Mod_write 75 [some (.ref 90), some (.ref 118), some (.int (nI b)), some (.int (nI i)), l4, l5, l6] [] (va_up (va_up (va_up (va_up w 90 (oMod s wd tn)) 113 (aI 3600 h)) 114 (aJ 60 raw)) 118 (aJ L (wrF N b i raw g))) n 0 0 (ab_q1 none (va_up (va_up (va_up (va_up w 90 (oMod s wd tn)) 113 (aI 3600 h)) 114 (aJ 60 raw)) 118 (aJ L (wrF N b 60 raw g))) n)) 60 ?_ (fun i hi ih => ?_) i hi
    · intro _
      refine ab_sound ok_202 [75] 50 ?_
      refine And.intro (fun _ => ?_) (fun h_9 => absurd (nI_le (Nat.le_refl _) (by omega)) h_9)
      exact ⟨rfl, rfl, rfl⟩
    · intro hpi
      refine ab_sound ok_202 [75] 50 ?_
      refine And.intro (fun h_9 => absurd h_9 (nI_ge hi (by omega))) (fun _ => ?_)
      refine And.intro ((by rw [nI_add]; exact vp_in_nI (by omega) (by omega))) ?_
      refine ab_ev_of (ih (by omega)) (by rw [nI_s i]; rfl) rfl ?_
      rw [va_uu, nI_add, nI_clamp (by omega)]
      exact congrArg (fun z => va_up _ 118 (aJ L z)) (wrF_s N b i raw g _ (by rw [if_neg (by omega)]; rfl))
  have lp1 : ∀ (i : Nat), i ≤ phi N → ∀ (l4 l5 l6 : Option Value), ab_Ev X l i_Mod_write 2 [some (.ref 90), some (.ref 118), some (.int (nI b)), some (.int (nI i)), l4, l5, l6] [] (va_up (va_up (va_up (va_up w 90 (oMod s wd tn)) 113 (aI 3600 h)) 114 (aJ 60 raw)) 118 (aJ L (wrF N b i raw g))) n 0 0 (ab_q1 none (va_up (va_up (va_up (va_up w 90 (oMod s wd tn)) 113 (aI 3600 h)) 114 (aJ 60 raw)) 118 (aJ L (wrF N b 60 raw g))) n) := by
    refine ab_up (phi N) ?_ (fun i hi ih => ?_)
    · intro l4 l5 l6
      refine ab_sound ok_202 [2, 75] 50 ?_
      refine And.intro (fun _ => ?_) (fun h_9 => absurd ((by rw [hs2]; exact nI_le (Nat.le_refl _) (by omega))) h_9)
      exact ab_ev_of (lp2 (phi N) l4 l5 l6 (by omega) (Nat.le_refl _)) (by rw [← hs2]; rfl) rfl rfl
    · intro l4 l5 l6
      refine ab_sound ok_202 [2, 16] 50 ?_
      refine And.intro (fun h_9 => absurd h_9 ((by rw [hs2]; exact nI_ge hi (by omega)))) (fun _ => ?_)
      have inn : ∀ k, k ≤ N → ab_Ev X l i_Mod_write 16 [some (.ref 90), some (.ref 118), some (.int (nI b)), some (.int (nI i)), some (.long (sumL (fun k => raw k * Int64.ofInt (pw N k i)) k)), none, some (.int (nI k))] [] (va_up (va_up (va_up (va_up w 90 (oMod s wd tn)) 113 (aI 3600 h)) 114 (aJ 60 raw)) 118 (aJ L (wrF N b i raw g))) n 0 0 (ab_q1 none (va_up (va_up (va_up (va_up w 90 (oMod s wd tn)) 113 (aI 3600 h)) 114 (aJ 60 raw)) 118 (aJ L (wrF N b 60 raw g))) n) := by
        refine ab_up N ?_ (fun k hk ih2 => ?_)
        · refine ab_sound ok_202 [2, 16] 50 ?_
          refine And.intro (fun _ => ?_) (fun h_9 => absurd ((by rw [hs]; exact nI_le (Nat.le_refl _) (by omega))) h_9)
          refine And.intro ((by rw [nI_add]; exact vp_in_nI (by omega) (by omega))) ?_
          refine ab_ev_of (ih (some (.long (sumL (fun k => raw k * Int64.ofInt (pw N k i)) N))) none (some (.int (nI N)))) (by rw [nI_s i]; rfl) rfl ?_
          rw [va_uu, nI_add, nI_clamp (by omega)]
          exact congrArg (fun z => va_up _ 118 (aJ L z)) (wrF_s N b i raw g _ (by rw [if_pos hi]; rfl))
        · refine ab_sound ok_202 [2, 16] 50 ?_
          refine And.intro (fun h_9 => absurd h_9 ((by rw [hs]; exact nI_ge hk (by omega)))) (fun _ => ?_)
          refine And.intro (vp_in_nI (by omega) (by omega)) ?_
          refine And.intro ((by rw [pk_mul, nI_add]; exact vp_in_nI (by omega) (by omega))) ?_
          refine ab_ev_of ih2 ?_ rfl rfl
          have hs9 := pw_small N k i hN hN3 hk
          rw [nI_s k, pk_mul, nI_add, nI_clamp (by omega), nI_clamp (by omega), hh k i hk hi, ofInt_wide hs9.1 hs9.2]
          rfl
      exact ab_ev_of (inn 0 (by omega)) rfl rfl rfl
  exact ab_ev_of (lp1 0 (by omega) none none none) rfl rfl (by rw [wrF_0])
theorem c_Mod_write_125 (x : Int32) (N b L : Nat) (w : ab_W) (n : Nat) {s : Nat → Int32} {wd tn : Int64} {h : Nat → Int32} {raw g : Nat → Int64} (hx : x = nI b) (hN : N ≤ 60) (hN3 : 3 ≤ N) (hb : b + 60 ≤ L) (hL : L ≤ 3600) (hs : s 38 = nI N) (hs2 : s 39 = nI (phi N)) (h0 : w 90 = oMod s wd tn) (h1 : w 113 = aI 3600 h) (hh : PowIs N h) (h2 : w 114 = aJ 60 raw) (h3 : w 125 = aJ L g) : ab_C X l i_Mod_write [.ref 90, .ref 125, .int x] w n 0 0 (ab_q1 none (va_up w 125 (aJ L (wrF N b 60 raw g))) n) := by
  subst hx
  obtain ⟨w, rfl⟩ := va_ex4 h3 h2 h1 h0
  have hp58 := phi_le N hN
  refine ab_metV cd_202 om_202 rfl rfl (ab_sound ok_202 [2] 50 ?_)
  rw [va_uu]
  have lp2 : ∀ (i : Nat) (l4 l5 l6 : Option Value), i ≤ 60 → phi N ≤ i → ab_Ev X l i_Mod_write 75 [some (.ref 90), some (.ref 125), some (.int (nI b)), some (.int (nI i)), l4, l5, l6] [] (va_up (va_up (va_up (va_up w 90 (oMod s wd tn)) 113 (aI 3600 h)) 114 (aJ 60 raw)) 125 (aJ L (wrF N b i raw g))) n 0 0 (ab_q1 none (va_up (va_up (va_up (va_up w 90 (oMod s wd tn)) 113 (aI 3600 h)) 114 (aJ 60 raw)) 125 (aJ L (wrF N b 60 raw g))) n) := by
    intro i l4 l5 l6 hi
    refine ab_up (P := fun i => phi N ≤ i → ab_Ev X l i_Mod_write 75 [some (.ref 90), some (.ref 125), some (.int (nI b)), some (.int (nI i)), l4, l5, l6] [] (va_up (va_up (va_up (va_up w 90 (oMod s wd tn)) 113 (aI 3600 h)) 114 (aJ 60 raw)) 125 (aJ L (wrF N b i raw g))) n 0 0 (ab_q1 none (va_up (va_up (va_up (va_up w 90 (oMod s wd tn)) 113 (aI 3600 h)) 114 (aJ 60 raw)) 125 (aJ L (wrF N b 60 raw g))) n)) 60 ?_ (fun i hi ih => ?_) i hi
    · intro _
      refine ab_sound ok_202 [75] 50 ?_
      refine And.intro (fun _ => ?_) (fun h_9 => absurd (nI_le (Nat.le_refl _) (by omega)) h_9)
      exact ⟨rfl, rfl, rfl⟩
    · intro hpi
      refine ab_sound ok_202 [75] 50 ?_
      refine And.intro (fun h_9 => absurd h_9 (nI_ge hi (by omega))) (fun _ => ?_)
      refine And.intro ((by rw [nI_add]; exact vp_in_nI (by omega) (by omega))) ?_
      refine ab_ev_of (ih (by omega)) (by rw [nI_s i]; rfl) rfl ?_
      rw [va_uu, nI_add, nI_clamp (by omega)]
      exact congrArg (fun z => va_up _ 125 (aJ L z)) (wrF_s N b i raw g _ (by rw [if_neg (by omega)]; rfl))
  have lp1 : ∀ (i : Nat), i ≤ phi N → ∀ (l4 l5 l6 : Option Value), ab_Ev X l i_Mod_write 2 [some (.ref 90), some (.ref 125), some (.int (nI b)), some (.int (nI i)), l4, l5, l6] [] (va_up (va_up (va_up (va_up w 90 (oMod s wd tn)) 113 (aI 3600 h)) 114 (aJ 60 raw)) 125 (aJ L (wrF N b i raw g))) n 0 0 (ab_q1 none (va_up (va_up (va_up (va_up w 90 (oMod s wd tn)) 113 (aI 3600 h)) 114 (aJ 60 raw)) 125 (aJ L (wrF N b 60 raw g))) n) := by
    refine ab_up (phi N) ?_ (fun i hi ih => ?_)
    · intro l4 l5 l6
      refine ab_sound ok_202 [2, 75] 50 ?_
      refine And.intro (fun _ => ?_) (fun h_9 => absurd ((by rw [hs2]; exact nI_le (Nat.le_refl _) (by omega))) h_9)
      exact ab_ev_of (lp2 (phi N) l4 l5 l6 (by omega) (Nat.le_refl _)) (by rw [← hs2]; rfl) rfl rfl
    · intro l4 l5 l6
      refine ab_sound ok_202 [2, 16] 50 ?_
      refine And.intro (fun h_9 => absurd h_9 ((by rw [hs2]; exact nI_ge hi (by omega)))) (fun _ => ?_)
      have inn : ∀ k, k ≤ N → ab_Ev X l i_Mod_write 16 [some (.ref 90), some (.ref 125), some (.int (nI b)), some (.int (nI i)), some (.long (sumL (fun k => raw k * Int64.ofInt (pw N k i)) k)), none, some (.int (nI k))] [] (va_up (va_up (va_up (va_up w 90 (oMod s wd tn)) 113 (aI 3600 h)) 114 (aJ 60 raw)) 125 (aJ L (wrF N b i raw g))) n 0 0 (ab_q1 none (va_up (va_up (va_up (va_up w 90 (oMod s wd tn)) 113 (aI 3600 h)) 114 (aJ 60 raw)) 125 (aJ L (wrF N b 60 raw g))) n) := by
        refine ab_up N ?_ (fun k hk ih2 => ?_)
        · refine ab_sound ok_202 [2, 16] 50 ?_
          refine And.intro (fun _ => ?_) (fun h_9 => absurd ((by rw [hs]; exact nI_le (Nat.le_refl _) (by omega))) h_9)
          refine And.intro ((by rw [nI_add]; exact vp_in_nI (by omega) (by omega))) ?_
          refine ab_ev_of (ih (some (.long (sumL (fun k => raw k * Int64.ofInt (pw N k i)) N))) none (some (.int (nI N)))) (by rw [nI_s i]; rfl) rfl ?_
          rw [va_uu, nI_add, nI_clamp (by omega)]
          exact congrArg (fun z => va_up _ 125 (aJ L z)) (wrF_s N b i raw g _ (by rw [if_pos hi]; rfl))
        · refine ab_sound ok_202 [2, 16] 50 ?_
          refine And.intro (fun h_9 => absurd h_9 ((by rw [hs]; exact nI_ge hk (by omega)))) (fun _ => ?_)
          refine And.intro (vp_in_nI (by omega) (by omega)) ?_
          refine And.intro ((by rw [pk_mul, nI_add]; exact vp_in_nI (by omega) (by omega))) ?_
          refine ab_ev_of ih2 ?_ rfl rfl
          have hs9 := pw_small N k i hN hN3 hk
          rw [nI_s k, pk_mul, nI_add, nI_clamp (by omega), nI_clamp (by omega), hh k i hk hi, ofInt_wide hs9.1 hs9.2]
          rfl
      exact ab_ev_of (inn 0 (by omega)) rfl rfl rfl
  exact ab_ev_of (lp1 0 (by omega) none none none) rfl rfl (by rw [wrF_0])
end WRITE
