section LAYN
variable {X : ab_X} {l : Launch}
def lpT : Nat → Nat → Nat → Bool
  | 0, _, _ => false
  | k + 1, rest, q => if rest % q = 0 then lpT k (rest / q) q else if rest ≤ 1 then true else lpT k rest (q + 1)
theorem lpT_ok : ∀ N, N ≤ 60 → 3 ≤ N → lpT 130 N 2 = true := by decide +kernel
abbrev sPD (s : Nat → Int32) (p : Nat) (d : Int32) : Nat → Int32 := upd (upd s 39 (nI p)) 40 d
theorem c_Mod_layPoly (N : Nat) (w : ab_W) (n : Nat) {s : Nat → Int32} {wd tn : Int64} {f g : Nat → Int32} (hN : N ≤ 60) (hN3 : 3 ≤ N) (h0 : w 90 = oMod s wd tn) (h1 : w 111 = aI 64 f) (h2 : w 112 = aI 64 g) : ab_C X l i_Mod_layPoly [.ref 90, .int (nI N)] w n 0 0 (fun v w' n' => v = none ∧ n' = n ∧ ∃ (f' g' : Nat → Int32) (d : Int32), w' = va_up (va_up (va_up w 90 (oMod (sPD s (phi N) d) wd tn)) 111 (aI 64 f')) 112 (aI 64 g') ∧ ∀ i, i ≤ phi N → f' i = Int32.ofInt ((least N).getD i 0)) := by
  obtain ⟨w, rfl⟩ := va_ex3 h2 h1 h0
  refine ab_met cd_195 om_195 rfl (by rintro _ _ _ ⟨rfl, -⟩; rfl) (ab_sound ok_195 [23] 50 ?_)
  generalize hQ9 : (fun (v : Option Value) (w' : ab_W) (n' : Nat) => v = none ∧ n' = n ∧ ∃ (f' g' : Nat → Int32) (d : Int32), w' = va_up (va_up (va_up (va_up (va_up (va_up w 90 (oMod s wd tn)) 111 (aI 64 f)) 112 (aI 64 g)) 90 (oMod (sPD s (phi N) d) wd tn)) 111 (aI 64 f')) 112 (aI 64 g') ∧ ∀ i, i ≤ phi N → f' i = Int32.ofInt ((least N).getD i 0)) = Q9
  have fin : ∀ (rest q p : Nat) (L : List Int) (f g : Nat → Int32) (d : Int32) (l4 : Option Value), rest ≤ 1 → (L, p) = poly N → (∀ i, i ≤ p → f i = Int32.ofInt (L.getD i 0)) → ab_Ev X l i_Mod_layPoly 23 [some (.ref 90), some (.int (nI N)), some (.int (nI rest)), some (.int (nI q)), l4] [] (va_up (va_up (va_up w 90 (oMod (sPD s p d) wd tn)) 111 (aI 64 f)) 112 (aI 64 g)) n 0 0 Q9 := by
    intro rest q p L f g d l4 hr he hf
    obtain ⟨e1, e2⟩ := poly_least N hN hN3
    rw [← he] at e1 e2
    dsimp only at e1 e2
    subst e1
    refine ab_sound ok_195 [23] 50 ?_
    refine And.intro (fun _ => ?_) (fun h_9 => absurd (nI_le hr (by omega)) h_9)
    subst hQ9
    have hle := phi_le N hN
    exact ⟨rfl, rfl, f, g, d, (by first | rfl | (simp only [va_uu, va_uc, Nat.reduceLT]; done) | (simp only [va_uu, va_uc, Nat.reduceLT]; rfl)), fun i hi => by rw [hf i hi, e2 i (by omega) hi]⟩
  have loop : ∀ (k rest q : Nat) (fi : Bool) (p : Nat) (L : List Int) (f g : Nat → Int32) (d : Int32), lpT k rest q = true → lpF k rest q fi L p = poly N → 1 ≤ rest → 2 ≤ q → q + k ≤ 132 → 1 ≤ p → p * rest ≤ N → (∀ i, i ≤ p → f i = Int32.ofInt (L.getD i 0)) → ab_Ev X l i_Mod_layPoly 31 [some (.ref 90), some (.int (nI N)), some (.int (nI rest)), some (.int (nI q)), some (.int (if fi = true then nI 1 else nI 0))] [] (va_up (va_up (va_up w 90 (oMod (sPD s p d) wd tn)) 111 (aI 64 f)) 112 (aI 64 g)) n 0 0 Q9 := by
    intro k
    induction k with
    | zero => intro rest q fi p L f g d ht; cases ht
    | succ k ih =>
      intro rest q fi p L f g d ht he hr hq hqk hp hpr hf
      have hrN : rest ≤ p * rest := Nat.le_mul_of_pos_left rest (by omega)
      have hpN : p ≤ p * rest := Nat.le_mul_of_pos_right p (by omega)
      refine ab_sound ok_195 [23, 31] 60 ?_
      refine And.intro (nI_ne0 (by omega) (by omega)) ?_
      rw [pk_rem (by omega) (by omega) (by omega)]
      unfold lpT at ht
      unfold lpF at he
      have hm1 : rest % q ≤ rest := Nat.mod_le _ _
      by_cases hz : rest % q = 0
      · rw [if_pos hz] at ht he
        refine And.intro (fun h9 => absurd ((nz (by omega)).mpr hz) h9) (fun _ => ?_)
        refine And.intro (nI_ne0 (by omega) (by omega)) ?_
        rw [pk_div (by omega) (by omega) (by omega)]
        have hdiv : q * (rest / q) = rest := Nat.mul_div_cancel' (Nat.dvd_of_mod_eq_zero hz)
        have hr1 : 1 ≤ rest / q := by
          rcases Nat.eq_zero_or_pos (rest / q) with h | h
          · rw [h] at hdiv
            omega
          · exact h
        have hqp : q * p * (rest / q) = p * rest := by rw [Nat.mul_comm q p, Nat.mul_assoc, hdiv]
        have hqp2 : q * p ≤ q * p * (rest / q) := Nat.le_mul_of_pos_right _ (by omega)
        have hpq : p ≤ q * p := Nat.le_mul_of_pos_left p (by omega)
        have hqq : q ≤ q * p := Nat.le_mul_of_pos_right q (by omega)
        have hp2 : 2 * p ≤ q * p := Nat.mul_le_mul_right p hq
        (refine Exists.intro 0 ?_; refine ⟨0, _, Nat.zero_le _, Nat.zero_le _, c_Mod_widen _ q p L _ _ (f := f) (g := g) rfl (by omega) (by omega) (by omega) rfl rfl rfl hf rfl, ?_⟩; rintro _ _ _ ⟨rfl, rfl, rfl⟩)
        cases fi with
        | true =>
          rw [if_pos rfl] at he
          refine And.intro (fun h9 => absurd h9 (by decide)) (fun _ => ?_)
          (refine Exists.intro 0 ?_; refine ⟨0, _, Nat.zero_le _, Nat.zero_le _, c_Mod_divide p (q * p) L (wdL q p L) _ _ (f := f) (g := g) (wdL_len q p L) hpq (by omega) rfl rfl rfl rfl hf rfl, ?_⟩; rintro _ _ _ ⟨rfl, rfl, rfl⟩)
          refine ab_ev_of (ih (rest / q) q false (q * p - p) _ (tI (dvP p (q * p - p) (dvR p L (q * p - p + 1) (wdL q p L))) f) (tI (dvR p L (q * p - p + 1) (wdL q p L)) g) (nI (q * p)) ht he hr1 hq (by omega) (by omega) (by rw [Nat.sub_mul, hqp]; omega) (fun i hi => tI_at _ _ (by rw [dvP_len]; omega))) rfl rfl ?_
          exact (by first | rfl | (simp only [va_uu, va_uc, Nat.reduceLT]; done) | (simp only [va_uu, va_uc, Nat.reduceLT]; rfl))
        | false =>
          rw [if_neg (by decide)] at he
          refine And.intro (fun _ => ?_) (fun h9 => absurd rfl h9)
          (refine Exists.intro 0 ?_; refine ⟨0, _, Nat.zero_le _, Nat.zero_le _, c_Mod_keepWide (wdL q p L) _ _ (f := f) (g := g) (wdL_len q p L) rfl rfl rfl, ?_⟩; rintro _ _ _ ⟨rfl, rfl, rfl⟩)
          refine ab_ev_of (ih (rest / q) q false (q * p) _ (tI (wdL q p L) f) (tI (wdL q p L) g) (nI (q * p)) ht he hr1 hq (by omega) (by omega) (by rw [hqp]; omega) (fun i hi => tI_at _ _ (by rw [wdL_len]; omega))) rfl rfl ?_
          exact (by first | rfl | (simp only [va_uu, va_uc, Nat.reduceLT]; done) | (simp only [va_uu, va_uc, Nat.reduceLT]; rfl))
      · rw [if_neg hz] at ht he
        refine And.intro (fun _ => ?_) (fun h9 => absurd ((nz (by omega)).mp h9) hz)
        by_cases h1 : rest ≤ 1
        · rw [if_pos h1] at ht he
          refine ab_ev_of (fin rest (q + 1) p L f g d (some (.int (if fi = true then nI 1 else nI 0))) h1 he hf) (by rw [nI_s q]; rfl) rfl rfl
        · rw [if_neg h1] at ht he
          have step : ab_Ev X l i_Mod_layPoly 23 [some (.ref 90), some (.int (nI N)), some (.int (nI rest)), some (.int (nI (q + 1))), some (.int (if fi = true then nI 1 else nI 0))] [] (va_up (va_up (va_up w 90 (oMod (sPD s p d) wd tn)) 111 (aI 64 f)) 112 (aI 64 g)) n 0 0 Q9 := by
            refine ab_sound ok_195 [31] 50 ?_
            refine And.intro (fun h_9 => absurd h_9 (nI_ge (by omega) (by omega))) (fun _ => ?_)
            exact ih rest (q + 1) true p L f g d ht he hr (by omega) (by omega) hp hpr hf
          exact ab_ev_of step (by rw [nI_s q]; rfl) rfl rfl
  refine And.intro (vp_in_nI (by omega) (by omega)) ?_
  refine And.intro (vp_in_nI (by omega) (by omega)) ?_
  have start : ab_Ev X l i_Mod_layPoly 23 [some (.ref 90), some (.int (nI N)), some (.int (nI N)), some (.int (nI 2)), none] [] (va_up (va_up (va_up w 90 (oMod (sPD s 1 (s 40)) wd tn)) 111 (aI 64 (upd (upd f 0 (-nI 1)) 1 (nI 1)))) 112 (aI 64 g)) n 0 0 Q9 := by
    refine ab_sound ok_195 [31] 50 ?_
    refine And.intro (fun h_9 => absurd h_9 (nI_ge (by omega) (by omega))) (fun _ => ?_)
    refine loop 130 N 2 true 1 pl0 _ g (s 40) (lpT_ok N hN hN3) rfl (by omega) (by omega) (by omega) (by omega) (by omega) ?_
    intro i hi
    rcases (show i = 0 ∨ i = 1 by omega) with rfl | rfl <;> rfl
  exact ab_ev_of start rfl rfl (by first | rfl | (simp only [va_uu, va_uc, Nat.reduceLT]; done) | (simp only [va_uu, va_uc, Nat.reduceLT]; rfl))
/-- the rows of z's powers: row k as p whole numbers -/
def stepRow (p : Nat) (c r : List Int) : List Int := (List.range p).map (fun i => (if 0 < i then r.getD (i - 1) 0 else 0) - r.getD (p - 1) 0 * c.getD i 0)
def unitRow (p k : Nat) : List Int := (List.range p).map (fun i => if i = k then 1 else 0)
def prow (p : Nat) (c : List Int) : Nat → List Int
  | 0 => unitRow p 0
  | k + 1 => if k + 1 < p then unitRow p (k + 1) else stepRow p c (prow p c k)
/-- number i of z^k -/
def pw (N k i : Nat) : Int := (prow (phi N) (least N) k).getD i 0
theorem unit_at {p k i : Nat} (h : i < p) : (unitRow p k).getD i 0 = if i = k then 1 else 0 := by
  unfold unitRow
  rw [List.getD_eq_getElem?_getD, List.getElem?_map, List.getElem?_range h]
  rfl
theorem step_at {p i : Nat} {c r : List Int} (h : i < p) : (stepRow p c r).getD i 0 = (if 0 < i then r.getD (i - 1) 0 else 0) - r.getD (p - 1) 0 * c.getD i 0 := by
  unfold stepRow
  rw [List.getD_eq_getElem?_getD, List.getElem?_map, List.getElem?_range h]
  rfl
theorem prow_lo (p : Nat) (c : List Int) {k : Nat} (h : k < p) : prow p c k = unitRow p k := by
  cases k with
  | zero => rfl
  | succ k => unfold prow; rw [if_pos h]
theorem prow_hi (p : Nat) (c : List Int) {k : Nat} (h : p ≤ k + 1) : prow p c (k + 1) = stepRow p c (prow p c k) := by
  rw [prow, if_neg (by omega)]
/-- the table of powers, as the model has it -/
def PowIs (N : Nat) (f : Nat → Int32) : Prop := ∀ k i, k < N → i < phi N → f (60 * k + i) = Int32.ofInt (pw N k i)
theorem c_Mod_layN_same (x : Int32) (w : ab_W) (n : Nat) {s : Nat → Int32} {wd tn : Int64} (hx : s 38 = x) (h0 : w 90 = oMod s wd tn) : ab_C X l i_Mod_layN [.ref 90, .int x] w n 0 0 (ab_q1 none w n) := by
  obtain ⟨w, rfl⟩ := va_ex h0
  refine ab_metV cd_194 om_194 rfl rfl (ab_sound ok_194 [] 50 ?_)
  refine And.intro (fun h9 => absurd hx h9) (fun _ => ?_)
  exact ⟨rfl, rfl, rfl⟩
abbrev sND (s : Nat → Int32) (N : Nat) (d : Int32) : Nat → Int32 := upd (upd (upd s 38 (nI N)) 39 (nI (phi N))) 40 d
set_option maxHeartbeats 1000000 in
theorem c_Mod_layN (x : Int32) (N : Nat) (w : ab_W) (n : Nat) {s : Nat → Int32} {wd tn : Int64} {f g h : Nat → Int32} (hx : x = nI N) (hv : s 38 ≠ nI N) (hN : N ≤ 60) (hN3 : 3 ≤ N) (h0 : w 90 = oMod s wd tn) (h1 : w 111 = aI 64 f) (h2 : w 112 = aI 64 g) (h3 : w 113 = aI 3600 h) : ab_C X l i_Mod_layN [.ref 90, .int x] w n 0 0 (fun v w' n' => v = none ∧ n' = n ∧ ∃ (f' g' h' : Nat → Int32) (d : Int32), w' = va_up (va_up (va_up (va_up w 90 (oMod (sND s N d) wd tn)) 111 (aI 64 f')) 112 (aI 64 g')) 113 (aI 3600 h') ∧ PowIs N h') := by
  subst hx
  obtain ⟨w, rfl⟩ := va_ex4 h3 h2 h1 h0
  refine ab_met cd_194 om_194 rfl (by rintro _ _ _ ⟨rfl, -⟩; rfl) (ab_sound ok_194 [21] 50 ?_)
  refine And.intro (fun _ => ?_) (fun h9 => absurd h9 hv)
  refine Exists.intro 0 ?_
  refine ⟨0, _, Nat.zero_le _, Nat.zero_le _, c_Mod_layPoly N _ _ (s := upd s 38 (nI N)) hN hN3 rfl rfl rfl, ?_⟩
  rintro _ _ _ ⟨rfl, rfl, f', g', d, rfl, hf⟩
  have hp58 := phi_le N hN
  have hp2 := phi_ge N hN hN3
  have hpN := phi_lt N hN hN3
  generalize hp : phi N = p at *
  rename_i n9
  generalize hQ9 : (fun (v : Option Value) (w' : ab_W) (n' : Nat) => v = none ∧ n' = n9 ∧ ∃ (f' g' h' : Nat → Int32) (d : Int32), w' = va_up (va_up (va_up (va_up (va_up (va_up (va_up (va_up w 90 (oMod s wd tn)) 111 (aI 64 f)) 112 (aI 64 g)) 113 (aI 3600 h)) 90 (oMod (sND s N d) wd tn)) 111 (aI 64 f')) 112 (aI 64 g')) 113 (aI 3600 h') ∧ PowIs N h') = Q9
  have pwE : ∀ k i, (prow p (least N) k).getD i 0 = pw N k i := fun k i => by unfold pw; rw [hp]
  have e39 : upd (upd (upd s 38 (nI N)) 39 (nI p)) 40 d 39 = nI p := rfl
  -- rows from p on
  have lp3 : ∀ k, k ≤ N → p ≤ k → ∀ (hh : Nat → Int32) (l3 l4 : Option Value), (∀ a i, a < k → i < p → hh (60 * a + i) = Int32.ofInt (pw N a i)) → ab_Ev X l i_Mod_layN 74 [some (.ref 90), some (.int (nI N)), some (.int (nI k)), l3, l4] [] (va_up (va_up (va_up (va_up w 90 (oMod (upd (upd (upd s 38 (nI N)) 39 (nI p)) 40 d) wd tn)) 111 (aI 64 f')) 112 (aI 64 g')) 113 (aI 3600 hh)) n9 0 0 Q9 := by
    refine ab_up (P := fun k => p ≤ k → ∀ (hh : Nat → Int32) (l3 l4 : Option Value), (∀ a i, a < k → i < p → hh (60 * a + i) = Int32.ofInt (pw N a i)) → ab_Ev X l i_Mod_layN 74 [some (.ref 90), some (.int (nI N)), some (.int (nI k)), l3, l4] [] (va_up (va_up (va_up (va_up w 90 (oMod (upd (upd (upd s 38 (nI N)) 39 (nI p)) 40 d) wd tn)) 111 (aI 64 f')) 112 (aI 64 g')) 113 (aI 3600 hh)) n9 0 0 Q9) N ?_ (fun k hk ih => ?_)
    · intro _ hh l3 l4 hhh
      refine ab_sound ok_194 [74] 50 ?_
      refine And.intro (fun _ => ?_) (fun h_9 => absurd (nI_le (Nat.le_refl _) (by omega)) h_9)
      subst hQ9
      refine ⟨rfl, rfl, f', g', hh, d, ?_, ?_⟩
      · unfold sND
        rw [hp]
        exact (by first | rfl | (simp only [va_uu, va_uc, Nat.reduceLT]; done) | (simp only [va_uu, va_uc, Nat.reduceLT]; rfl))
      · intro a i ha hi
        exact hhh a i ha (by rw [← hp]; exact hi)
    · intro hpk hh l3 l4 hhh
      obtain ⟨k, rfl⟩ : ∃ j, k = j + 1 := ⟨k - 1, by omega⟩
      refine ab_sound ok_194 [74, 101] 60 ?_
      refine And.intro (fun h_9 => absurd h_9 (nI_ge hk (by omega))) (fun _ => ?_)
      refine And.intro ((by rw [e39, pk_sub (by omega), pk_mul, nI_add, pk_sub (by omega)]; exact vp_in_nI (by omega) (by omega))) ?_
      rw [e39, pk_sub (by omega), pk_mul, nI_add, pk_sub (by omega), nI_clamp (by omega), show 60 * (k + 1 - 1) + p - 1 = 60 * k + (p - 1) by omega, hhh k (p - 1) (by omega) (by omega)]
      have inn : ∀ i, i ≤ p → ∀ (hh : Nat → Int32), (∀ a j, a < k + 1 → j < p → hh (60 * a + j) = Int32.ofInt (pw N a j)) → (∀ j, j < i → hh (60 * (k + 1) + j) = Int32.ofInt (pw N (k + 1) j)) → ab_Ev X l i_Mod_layN 101 [some (.ref 90), some (.int (nI N)), some (.int (nI (k + 1))), some (.int (Int32.ofInt (pw N k (p - 1)))), some (.int (nI i))] [] (va_up (va_up (va_up (va_up w 90 (oMod (upd (upd (upd s 38 (nI N)) 39 (nI p)) 40 d) wd tn)) 111 (aI 64 f')) 112 (aI 64 g')) 113 (aI 3600 hh)) n9 0 0 Q9 := by
        refine ab_up (P := fun i => ∀ (hh : Nat → Int32), (∀ a j, a < k + 1 → j < p → hh (60 * a + j) = Int32.ofInt (pw N a j)) → (∀ j, j < i → hh (60 * (k + 1) + j) = Int32.ofInt (pw N (k + 1) j)) → ab_Ev X l i_Mod_layN 101 [some (.ref 90), some (.int (nI N)), some (.int (nI (k + 1))), some (.int (Int32.ofInt (pw N k (p - 1)))), some (.int (nI i))] [] (va_up (va_up (va_up (va_up w 90 (oMod (upd (upd (upd s 38 (nI N)) 39 (nI p)) 40 d) wd tn)) 111 (aI 64 f')) 112 (aI 64 g')) 113 (aI 3600 hh)) n9 0 0 Q9) p ?_ (fun i hi ih2 => ?_)
        · intro hh hA hR
          refine ab_sound ok_194 [74, 101] 60 ?_
          refine And.intro (fun _ => ?_) (fun h_9 => absurd (nI_le (Nat.le_refl _) (by omega)) h_9)
          refine ab_ev_of (ih (by omega) hh (some (.int (Int32.ofInt (pw N k (p - 1))))) (some (.int (nI p))) (fun a j ha hj => ?_)) (by rw [nI_s (k + 1)]; rfl) rfl rfl
          by_cases e : a = k + 1
          · rw [e]
            exact hR j hj
          · exact hA a j (by omega) hj
        · intro hh hA hR
          have hval : pw N (k + 1) i = (if 0 < i then pw N k (i - 1) else 0) - pw N k (p - 1) * (least N).getD i 0 := by
            rw [← pwE, prow_hi _ _ hpk, step_at hi, pwE, pwE]
          refine ab_sound ok_194 [74, 101] 60 ?_
          refine And.intro (fun h_9 => absurd h_9 (nI_ge hi (by omega))) (fun _ => ?_)
          have next : ∀ v : Int32, v = Int32.ofInt (pw N (k + 1) i) → ab_Ev X l i_Mod_layN 101 [some (.ref 90), some (.int (nI N)), some (.int (nI (k + 1))), some (.int (Int32.ofInt (pw N k (p - 1)))), some (.int (nI i + nI 1))] [] (va_up (va_up (va_up (va_up w 90 (oMod (upd (upd (upd s 38 (nI N)) 39 (nI p)) 40 d) wd tn)) 111 (aI 64 f')) 112 (aI 64 g')) 113 (aI 3600 (upd hh (60 * (k + 1) + i) v))) n9 0 0 Q9 := by
            intro v hv
            refine ab_ev_of (ih2 (upd hh (60 * (k + 1) + i) v) (fun a j ha hj => ?_) (fun j hj => ?_)) (by rw [nI_s i]) rfl rfl
            · unfold upd
              rw [if_neg (by omega)]
              exact hA a j ha hj
            · unfold upd
              by_cases e : j = i
              · rw [if_pos (by omega), hv, e]
              · rw [if_neg (by omega)]
                exact hR j (by omega)
          by_cases h0 : 0 < i
          · rw [if_pos h0] at hval
            refine And.intro (fun h_9 => absurd h_9 ((by rw [i32_le, nI_toInt (by omega)]; show ¬ ((i : Nat) : Int) ≤ 0; omega))) (fun _ => ?_)
            refine And.intro ((by rw [pk_sub (by omega), pk_mul, nI_add, pk_sub (by omega)]; exact vp_in_nI (by omega) (by omega))) ?_
            refine And.intro (vp_in_nI (by omega) (by omega)) ?_
            refine And.intro ((by rw [pk_mul, nI_add]; exact vp_in_nI (by omega) (by omega))) ?_
            refine ab_ev_of (next _ rfl) rfl rfl ?_
            rw [va_uu, pk_sub (by omega), pk_mul, pk_mul, nI_add, nI_add, pk_sub (by omega), nI_clamp (by omega), nI_clamp (by omega), nI_clamp (by omega), show 60 * (k + 1 - 1) + i - 1 = 60 * k + (i - 1) by omega, hA k (i - 1) (by omega) (by omega), hf i (by omega), ← Int32.ofInt_mul, ← Int32.ofInt_sub, hval]
          · rw [if_neg h0] at hval
            have e0 : i = 0 := by omega
            refine And.intro (fun _ => ?_) (fun h_9 => absurd ((by rw [e0]; decide)) h_9)
            refine And.intro (vp_in_nI (by omega) (by omega)) ?_
            refine And.intro ((by rw [pk_mul, nI_add]; exact vp_in_nI (by omega) (by omega))) ?_
            refine ab_ev_of (next _ rfl) rfl rfl ?_
            rw [va_uu, pk_mul, nI_add, nI_clamp (by omega), nI_clamp (by omega), hf i (by omega), ← Int32.ofInt_mul, show nI 0 = Int32.ofInt 0 from rfl, ← Int32.ofInt_sub, hval]
      exact inn 0 (by omega) hh hhh (fun j hj => by omega)
  -- the first p rows
  have lp2 : ∀ k, k ≤ p → ∀ (hh : Nat → Int32), (∀ a i, a < p → i < p → hh (60 * a + i) = if a < k ∧ i = a then nI 1 else 0) → ab_Ev X l i_Mod_layN 43 [some (.ref 90), some (.int (nI N)), some (.int (nI k)), none, none] [] (va_up (va_up (va_up (va_up w 90 (oMod (upd (upd (upd s 38 (nI N)) 39 (nI p)) 40 d) wd tn)) 111 (aI 64 f')) 112 (aI 64 g')) 113 (aI 3600 hh)) n9 0 0 Q9 := by
    refine ab_up (P := fun k => ∀ (hh : Nat → Int32), (∀ a i, a < p → i < p → hh (60 * a + i) = if a < k ∧ i = a then nI 1 else 0) → ab_Ev X l i_Mod_layN 43 [some (.ref 90), some (.int (nI N)), some (.int (nI k)), none, none] [] (va_up (va_up (va_up (va_up w 90 (oMod (upd (upd (upd s 38 (nI N)) 39 (nI p)) 40 d) wd tn)) 111 (aI 64 f')) 112 (aI 64 g')) 113 (aI 3600 hh)) n9 0 0 Q9) p ?_ (fun k hk ih => ?_)
    · intro hh hhh
      refine ab_sound ok_194 [43, 74] 50 ?_
      refine And.intro (fun _ => ?_) (fun h_9 => absurd (nI_le (Nat.le_refl _) (by omega)) h_9)
      refine ab_ev_of (lp3 p (by omega) (Nat.le_refl _) hh none none (fun a i ha hi => ?_)) rfl rfl rfl
      rw [hhh a i ha hi, ← pwE, prow_lo _ _ ha, unit_at hi]
      by_cases e : i = a
      · rw [if_pos ⟨ha, e⟩, if_pos e]
        rfl
      · rw [if_neg (fun z => e z.2), if_neg e]
        rfl
    · intro hh hhh
      refine ab_sound ok_194 [43, 74] 50 ?_
      refine And.intro (fun h_9 => absurd h_9 (nI_ge hk (by omega))) (fun _ => ?_)
      refine And.intro ((by rw [pk_mul, nI_add]; exact vp_in_nI (by omega) (by omega))) ?_
      refine ab_ev_of (ih (upd hh (60 * k + k) (nI 1)) (fun a i ha hi => ?_)) (by rw [nI_s k]; rfl) rfl (by rw [va_uu, pk_mul, nI_add, nI_clamp (by omega)])
      unfold upd
      by_cases e : a = k ∧ i = k
      · rw [if_pos (by omega), if_pos (by omega)]
      · rw [if_neg (by omega), hhh a i ha hi]
        by_cases e2 : a < k ∧ i = a
        · rw [if_pos e2, if_pos (by omega)]
        · rw [if_neg e2, if_neg (by omega)]
  have lp1 : ∀ k, k ≤ 3600 → ∀ (hh : Nat → Int32), (∀ j, j < k → hh j = 0) → ab_Ev X l i_Mod_layN 21 [some (.ref 90), some (.int (nI N)), some (.int (nI k)), none, none] [] (va_up (va_up (va_up (va_up w 90 (oMod (upd (upd (upd s 38 (nI N)) 39 (nI p)) 40 d) wd tn)) 111 (aI 64 f')) 112 (aI 64 g')) 113 (aI 3600 hh)) n9 0 0 Q9 := by
    refine ab_up (P := fun k => ∀ (hh : Nat → Int32), (∀ j, j < k → hh j = 0) → ab_Ev X l i_Mod_layN 21 [some (.ref 90), some (.int (nI N)), some (.int (nI k)), none, none] [] (va_up (va_up (va_up (va_up w 90 (oMod (upd (upd (upd s 38 (nI N)) 39 (nI p)) 40 d) wd tn)) 111 (aI 64 f')) 112 (aI 64 g')) 113 (aI 3600 hh)) n9 0 0 Q9) 3600 ?_ (fun k hk ih => ?_)
    · intro hh hhh
      refine ab_sound ok_194 [21, 43] 50 ?_
      refine And.intro (fun _ => ?_) (fun h_9 => absurd (nI_le (Nat.le_refl _) (by omega)) h_9)
      refine ab_ev_of (lp2 0 (by omega) hh (fun a i ha hi => ?_)) rfl rfl rfl
      rw [hhh _ (by omega), if_neg (by omega)]
    · intro hh hhh
      refine ab_sound ok_194 [21, 43] 50 ?_
      refine And.intro (fun h_9 => absurd h_9 (nI_ge hk (by omega))) (fun _ => ?_)
      refine And.intro (vp_in_nI hk (by omega)) ?_
      refine ab_ev_of (ih (upd hh k (nI 0)) (fun j hj => ?_)) (by rw [nI_s k]; rfl) rfl (by rw [va_uu, nI_clamp (by omega)])
      unfold upd
      by_cases e : j = k
      · rw [if_pos e]
        rfl
      · rw [if_neg e]
        exact hhh j (by omega)
  exact ab_ev_of (lp1 0 (by omega) h (fun j hj => by omega)) rfl rfl (by first | rfl | (simp only [va_uu, va_uc, Nat.reduceLT]; done) | (simp only [va_uu, va_uc, Nat.reduceLT]; rfl))
end LAYN
