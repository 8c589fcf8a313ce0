section PROD
variable {X : ab_X} {l : Launch}
def gpF (ix : Nat → Nat → Nat) (v : Nat → Nat → Int64) (p : Nat) : Nat → (Nat → Int64) → (Nat → Int64)
  | 0, f => f
  | i + 1, f => gaF (ix i) (v i) p (gpF ix v p i f)
theorem gaF_0 {ix : Nat → Nat} {v : Nat → Int64} (m : Nat) (f : Nat → Int64) (h : ∀ j, j < m → v j = 0) : gaF ix v m f = f := by
  rw [gaF_congr (ix2 := ix) (v2 := fun _ => 0) f m (fun j hj => ⟨rfl, h j hj⟩), gaF_z]
theorem gpF_congr {ix ix2 : Nat → Nat → Nat} {v v2 : Nat → Nat → Int64} (p : Nat) (f : Nat → Int64) : ∀ m, (∀ i j, i < m → j < p → ix i j = ix2 i j ∧ v i j = v2 i j) → gpF ix v p m f = gpF ix2 v2 p m f
  | 0, _ => rfl
  | m + 1, h => by
    unfold gpF
    rw [gpF_congr p f m (fun i j hi hj => h i j (by omega) hj), gaF_congr _ p (fun j hj => h m j (by omega) hj)]
theorem c_Sums_addProduct (x : Int32) (qa aa qb ab N k : Nat) {R S : Nat → Nat → Int64} (w : ab_W) (n : Nat) {f : Nat → Int64} (hx : x = nI k) (hN : N ≤ 60) (hN3 : 3 ≤ N) (hk : k < N) (hA : ShIs w qa N aa R) (hB : ShIs w qb N ab S) (h0 : w 17 = oSums (nI N) (nI (phi N))) (h2 : w 19 = aJ 60 f) : ab_C X l i_Sums_addProduct [.ref 17, .ref qa, .ref qb, .int x] w n 0 0 (ab_q1 none (va_up w 19 (aJ 60 (gpF (fun i j => (i + j) % N) (fun i j => R k i * S k j) (phi N) (phi N) f))) n) := by
  subst hx
  obtain ⟨w, rfl⟩ := va_ex2 h2 h0
  have hp := phi_le N hN
  have hlt := phi_lt N hN hN3
  have hSA : ∀ F, ShIs (va_up (va_up w 17 (oSums (nI N) (nI (phi N)))) 19 (aJ 60 F)) qa N aa R := fun F => hA.re (by omega)
  have hSB : ∀ F, ShIs (va_up (va_up w 17 (oSums (nI N) (nI (phi N)))) 19 (aJ 60 F)) qb N ab S := fun F => hB.re (by omega)
  refine ab_metV cd_74 om_74 rfl rfl (ab_sound ok_74 [3] 50 ?_)
  rw [va_uu]
  generalize hQ : ab_q1 none (va_up (va_up w 17 (oSums (nI N) (nI (phi N)))) 19 (aJ 60 (gpF (fun i j => (i + j) % N) (fun i j => R k i * S k j) (phi N) (phi N) f))) n = Q
  have outer : ∀ i, i ≤ phi N → ∀ (l5 l6 l7 : Option Value), ab_Ev X l i_Sums_addProduct 3 [some (.ref 17), some (.ref qa), some (.ref qb), some (.int (nI k)), some (.int (nI i)), l5, l6, l7] [] (va_up (va_up w 17 (oSums (nI N) (nI (phi N)))) 19 (aJ 60 (gpF (fun i j => (i + j) % N) (fun i j => R k i * S k j) (phi N) i f))) n 0 0 Q := by
    refine ab_up (phi N) ?_ (fun i hi ih => ?_)
    · intro l5 l6 l7
      refine ab_sound ok_74 [3] 50 ?_
      refine And.intro (fun _ => ?_) (fun h_9 => absurd (nI_le (Nat.le_refl _) (by omega)) h_9)
      subst hQ
      exact ⟨rfl, rfl, rfl⟩
    · intro l5 l6 l7
      generalize hF : gpF (fun i j => (i + j) % N) (fun i j => R k i * S k j) (phi N) i f = F
      have fin : ∀ (j : Nat) (G : Nat → Int64), G = gaF (fun j => (i + j) % N) (fun j => R k i * S k j) (phi N) F → ab_Ev X l i_Sums_addProduct 90 [some (.ref 17), some (.ref qa), some (.ref qb), some (.int (nI k)), some (.int (nI i)), some (.long (R k i)), none, some (.int (nI j))] [] (va_up (va_up w 17 (oSums (nI N) (nI (phi N)))) 19 (aJ 60 G)) n 0 0 Q := by
        intro j G hG
        refine ab_sound ok_74 [3] 50 ?_
        refine ab_ev_of (ih (some (.long (R k i))) none (some (.int (nI j)))) (by rw [nI_s i]; rfl) rfl ?_
        rw [hG, ← hF]
        rfl
      refine ab_sound ok_74 [24] 50 ?_
      refine And.intro (fun h_9 => absurd h_9 (nI_ge hi (by omega))) (fun _ => ?_)
      refine And.intro (⟨_, (hSA F).1⟩) ?_
      (refine Exists.intro 0 ?_; refine ⟨0, _, Nat.zero_le _, Nat.zero_le _, c_number _ _ qa aa N k i _ _ rfl rfl hN hk hi (hSA F), ?_⟩; rintro _ _ _ ⟨rfl, rfl, rfl⟩)
      rename_i w9 n9
      have inn : ∀ j, j ≤ phi N → ab_Ev X l i_Sums_addProduct 24 [some (.ref 17), some (.ref qa), some (.ref qb), some (.int (nI k)), some (.int (nI i)), some (.long (R k i)), none, some (.int (nI j))] [] (va_up (va_up w 17 (oSums (nI N) (nI (phi N)))) 19 (aJ 60 (gaF (fun j => (i + j) % N) (fun j => R k i * S k j) j F))) n9 0 0 Q := by
        refine ab_up (phi N) ?_ (fun j hj ih2 => ?_)
        · refine ab_sound ok_74 [24, 90] 50 ?_
          refine And.intro (fun _ => ?_) (fun h_9 => absurd (nI_le (Nat.le_refl _) (by omega)) h_9)
          exact fin (phi N) _ rfl
        · refine ab_sound ok_74 [24, 90] 80 ?_
          refine And.intro (fun h_9 => absurd h_9 (nI_ge hj (by omega))) (fun _ => ?_)
          refine And.intro (fun hz => ?_) (fun hz => ?_)
          · rw [lz_eq] at hz
            have e0 : ∀ m, gaF (fun j => (i + j) % N) (fun j => R k i * S k j) m F = F := fun m => gaF_0 m F (fun j _ => by rw [hz]; simp)
            refine fin j _ ?_
            rw [e0, e0]
          · have e1 : ∀ v : Int32, v = nI ((i + j) % N) → ab_C X l i_Sums_add [.ref 17, .int v, .long (R k i * S k j)] (va_up (va_up w 17 (oSums (nI N) (nI (phi N)))) 19 (aJ 60 (gaF (fun j => (i + j) % N) (fun j => R k i * S k j) j F))) n9 0 0 (ab_q1 none (va_up (va_up w 17 (oSums (nI N) (nI (phi N)))) 19 (aJ 60 (gaF (fun j => (i + j) % N) (fun j => R k i * S k j) (j + 1) F))) n9) := by
              intro v hv
              have := c_Sums_add (X := X) (l := l) v ((i + j) % N) (R k i * S k j) (va_up (va_up w 17 (oSums (nI N) (nI (phi N)))) 19 (aJ 60 (gaF (fun j => (i + j) % N) (fun j => R k i * S k j) j F))) n9 hv (Nat.lt_of_lt_of_le (Nat.mod_lt _ (by omega)) hN) rfl rfl
              rw [va_uu] at this
              exact this
            by_cases hc : i + j < N
            · refine And.intro (fun _ => ?_) (fun h_9 => absurd ((by rw [nI_add]; exact nI_lt hc (by omega))) h_9)
              refine And.intro (⟨_, (hSB _).1⟩) ?_
              (refine Exists.intro 0 ?_; refine ⟨0, _, Nat.zero_le _, Nat.zero_le _, c_number _ _ qb ab N k j _ _ rfl rfl hN hk hj (hSB _), ?_⟩; rintro _ _ _ ⟨rfl, rfl, rfl⟩)
              (refine Exists.intro 0 ?_; refine ⟨0, _, Nat.zero_le _, Nat.zero_le _, e1 _ (by rw [nI_add, Nat.mod_eq_of_lt hc]), ?_⟩; rintro _ _ _ ⟨rfl, rfl, rfl⟩)
              exact ab_ev_of ih2 (by rw [nI_s j]; rfl) rfl rfl
            · refine And.intro (fun h_9 => absurd h_9 ((by rw [nI_add]; exact nI_nlt (by omega) (by omega)))) (fun _ => ?_)
              refine And.intro (⟨_, (hSB _).1⟩) ?_
              (refine Exists.intro 0 ?_; refine ⟨0, _, Nat.zero_le _, Nat.zero_le _, c_number _ _ qb ab N k j _ _ rfl rfl hN hk hj (hSB _), ?_⟩; rintro _ _ _ ⟨rfl, rfl, rfl⟩)
              (refine Exists.intro 0 ?_; refine ⟨0, _, Nat.zero_le _, Nat.zero_le _, e1 _ (by rw [nI_add, pk_sub (by omega), Nat.mod_eq_sub_mod (by omega), Nat.mod_eq_of_lt (by omega)]), ?_⟩; rintro _ _ _ ⟨rfl, rfl, rfl⟩)
              exact ab_ev_of ih2 (by rw [nI_s j]; rfl) rfl rfl
      exact ab_ev_of (inn 0 (by omega)) rfl rfl rfl
  exact outer 0 (by omega) none none none
theorem c_Sums_addMirroredProduct (x y sg : Int32) (q a N k m : Nat) {R : Nat → Nat → Int64} (w : ab_W) (n : Nat) {f : Nat → Int64} (hx : x = nI k) (hy : y = nI m) (hN : N ≤ 60) (hN3 : 3 ≤ N) (hk : k < N) (hm : m < N) (hA : ShIs w q N a R) (h0 : w 17 = oSums (nI N) (nI (phi N))) (h2 : w 19 = aJ 60 f) : ab_C X l i_Sums_addMirroredProduct [.ref 17, .ref q, .int x, .int y, .int sg] w n 0 0 (ab_q1 none (va_up w 19 (aJ 60 (gpF (fun i j => (j + N - i) % N) (fun i j => sg.toInt64 * R k i * R m j) (phi N) (phi N) f))) n) := by
  subst hx hy
  obtain ⟨w, rfl⟩ := va_ex2 h2 h0
  have hp := phi_le N hN
  have hlt := phi_lt N hN hN3
  have hSA : ∀ F, ShIs (va_up (va_up w 17 (oSums (nI N) (nI (phi N)))) 19 (aJ 60 F)) q N a R := fun F => hA.re (by omega)
  refine ab_metV cd_72 om_72 rfl rfl (ab_sound ok_72 [3] 50 ?_)
  rw [va_uu]
  generalize hQ : ab_q1 none (va_up (va_up w 17 (oSums (nI N) (nI (phi N)))) 19 (aJ 60 (gpF (fun i j => (j + N - i) % N) (fun i j => sg.toInt64 * R k i * R m j) (phi N) (phi N) f))) n = Q
  have outer : ∀ i, i ≤ phi N → ∀ (l6 l7 l8 : Option Value), ab_Ev X l i_Sums_addMirroredProduct 3 [some (.ref 17), some (.ref q), some (.int (nI k)), some (.int (nI m)), some (.int sg), some (.int (nI i)), l6, l7, l8] [] (va_up (va_up w 17 (oSums (nI N) (nI (phi N)))) 19 (aJ 60 (gpF (fun i j => (j + N - i) % N) (fun i j => sg.toInt64 * R k i * R m j) (phi N) i f))) n 0 0 Q := by
    refine ab_up (phi N) ?_ (fun i hi ih => ?_)
    · intro l6 l7 l8
      refine ab_sound ok_72 [3] 50 ?_
      refine And.intro (fun _ => ?_) (fun h_9 => absurd (nI_le (Nat.le_refl _) (by omega)) h_9)
      subst hQ
      exact ⟨rfl, rfl, rfl⟩
    · intro l6 l7 l8
      generalize hF : gpF (fun i j => (j + N - i) % N) (fun i j => sg.toInt64 * R k i * R m j) (phi N) i f = F
      have fin : ∀ (j : Nat) (G : Nat → Int64), G = gaF (fun j => (j + N - i) % N) (fun j => sg.toInt64 * R k i * R m j) (phi N) F → ab_Ev X l i_Sums_addMirroredProduct 89 [some (.ref 17), some (.ref q), some (.int (nI k)), some (.int (nI m)), some (.int sg), some (.int (nI i)), some (.long (sg.toInt64 * R k i)), none, some (.int (nI j))] [] (va_up (va_up w 17 (oSums (nI N) (nI (phi N)))) 19 (aJ 60 G)) n 0 0 Q := by
        intro j G hG
        refine ab_sound ok_72 [3] 50 ?_
        refine ab_ev_of (ih (some (.long (sg.toInt64 * R k i))) none (some (.int (nI j)))) (by rw [nI_s i]; rfl) rfl ?_
        rw [hG, ← hF]
        rfl
      refine ab_sound ok_72 [28] 50 ?_
      refine And.intro (fun h_9 => absurd h_9 (nI_ge hi (by omega))) (fun _ => ?_)
      refine And.intro (⟨_, (hSA F).1⟩) ?_
      (refine Exists.intro 0 ?_; refine ⟨0, _, Nat.zero_le _, Nat.zero_le _, c_number _ _ q a N k i _ _ rfl rfl hN hk hi (hSA F), ?_⟩; rintro _ _ _ ⟨rfl, rfl, rfl⟩)
      rename_i w9 n9
      have inn : ∀ j, j ≤ phi N → ab_Ev X l i_Sums_addMirroredProduct 28 [some (.ref 17), some (.ref q), some (.int (nI k)), some (.int (nI m)), some (.int sg), some (.int (nI i)), some (.long (sg.toInt64 * R k i)), none, some (.int (nI j))] [] (va_up (va_up w 17 (oSums (nI N) (nI (phi N)))) 19 (aJ 60 (gaF (fun j => (j + N - i) % N) (fun j => sg.toInt64 * R k i * R m j) j F))) n9 0 0 Q := by
        refine ab_up (phi N) ?_ (fun j hj ih2 => ?_)
        · refine ab_sound ok_72 [28, 89] 50 ?_
          refine And.intro (fun _ => ?_) (fun h_9 => absurd (nI_le (Nat.le_refl _) (by omega)) h_9)
          exact fin (phi N) _ rfl
        · refine ab_sound ok_72 [28, 89] 80 ?_
          refine And.intro (fun h_9 => absurd h_9 (nI_ge hj (by omega))) (fun _ => ?_)
          refine And.intro (fun hz => ?_) (fun hz => ?_)
          · rw [lz_eq] at hz
            have e0 : ∀ u, gaF (fun j => (j + N - i) % N) (fun j => sg.toInt64 * R k i * R m j) u F = F := fun u => gaF_0 u F (fun j _ => by rw [hz]; simp)
            refine fin j _ ?_
            rw [e0, e0]
          · have e1 : ∀ v : Int32, v = nI ((j + N - i) % N) → ab_C X l i_Sums_add [.ref 17, .int v, .long (sg.toInt64 * R k i * R m j)] (va_up (va_up w 17 (oSums (nI N) (nI (phi N)))) 19 (aJ 60 (gaF (fun j => (j + N - i) % N) (fun j => sg.toInt64 * R k i * R m j) j F))) n9 0 0 (ab_q1 none (va_up (va_up w 17 (oSums (nI N) (nI (phi N)))) 19 (aJ 60 (gaF (fun j => (j + N - i) % N) (fun j => sg.toInt64 * R k i * R m j) (j + 1) F))) n9) := by
              intro v hv
              have := c_Sums_add (X := X) (l := l) v ((j + N - i) % N) (sg.toInt64 * R k i * R m j) (va_up (va_up w 17 (oSums (nI N) (nI (phi N)))) 19 (aJ 60 (gaF (fun j => (j + N - i) % N) (fun j => sg.toInt64 * R k i * R m j) j F))) n9 hv (Nat.lt_of_lt_of_le (Nat.mod_lt _ (by omega)) hN) rfl rfl
              rw [va_uu] at this
              exact this
            by_cases hc : j < i
            · refine And.intro (fun h_9 => absurd h_9 (nI_ge hc (by omega))) (fun _ => ?_)
              refine And.intro (⟨_, (hSA _).1⟩) ?_
              (refine Exists.intro 0 ?_; refine ⟨0, _, Nat.zero_le _, Nat.zero_le _, c_number _ _ q a N m j _ _ rfl rfl hN hm hj (hSA _), ?_⟩; rintro _ _ _ ⟨rfl, rfl, rfl⟩)
              (refine Exists.intro 0 ?_; refine ⟨0, _, Nat.zero_le _, Nat.zero_le _, e1 _ (by rw [Nat.mod_eq_of_lt (show j + N - i < N by omega), show j + N - i = N - (i - j) by omega, ← pk_sub (show i - j ≤ N by omega), ← pk_sub (show j ≤ i by omega)]; grind), ?_⟩; rintro _ _ _ ⟨rfl, rfl, rfl⟩)
              exact ab_ev_of ih2 (by rw [nI_s j]; rfl) rfl rfl
            · refine And.intro (fun _ => ?_) (fun h_9 => absurd (nI_le (by omega) (by omega)) h_9)
              refine And.intro (⟨_, (hSA _).1⟩) ?_
              (refine Exists.intro 0 ?_; refine ⟨0, _, Nat.zero_le _, Nat.zero_le _, c_number _ _ q a N m j _ _ rfl rfl hN hm hj (hSA _), ?_⟩; rintro _ _ _ ⟨rfl, rfl, rfl⟩)
              (refine Exists.intro 0 ?_; refine ⟨0, _, Nat.zero_le _, Nat.zero_le _, e1 _ (by rw [pk_sub (by omega), show j + N - i = (j - i) + N by omega, Nat.add_mod_right, Nat.mod_eq_of_lt (by omega)]), ?_⟩; rintro _ _ _ ⟨rfl, rfl, rfl⟩)
              exact ab_ev_of ih2 (by rw [nI_s j]; rfl) rfl rfl
      exact ab_ev_of (inn 0 (by omega)) rfl rfl rfl
  exact outer 0 (by omega) none none none
theorem c_Mod_gather_116 (x z mr : Int32) (tm : Int64) (N b L t : Nat) (w : ab_W) (n : Nat) {s : Nat → Int32} {wd tn : Int64} {raw g : Nat → Int64} (mir : Bool) (hmr : mr = b01 mir) (hx : x = nI b) (hz : z = nI t) (hN : N ≤ 60) (hN3 : 3 ≤ N) (ht : t < N) (hb : b + 60 ≤ L) (hL : L ≤ 30000) (hs : s 38 = nI N) (hs2 : s 39 = nI (phi N)) (h0 : w 90 = oMod s wd tn) (h2 : w 114 = aJ 60 raw) (h3 : w 116 = aJ L g) : ab_C X l i_Mod_gather [.ref 90, .ref 116, .int x, .long tm, .int z, .int mr] w n 0 0 (ab_q1 none (va_up w 114 (aJ 60 (gaF (fun i => if mir = true then (t + N - i) % N else (t + i) % N) (fun i => tm * g (b + i)) (phi N) raw))) n) := by
  subst hx hz hmr
  obtain ⟨w, rfl⟩ := va_ex3 h3 h2 h0
  have hp := phi_le N hN
  have hlt := phi_lt N hN hN3
  refine ab_metV cd_213 om_213 rfl rfl (ab_sound ok_213 [3] 50 ?_)
  generalize hQ : ab_q1 none (va_up (va_up (va_up (va_up w 90 (oMod s wd tn)) 114 (aJ 60 raw)) 116 (aJ L g)) 114 (aJ 60 (gaF (fun i => if mir = true then (t + N - i) % N else (t + i) % N) (fun i => tm * g (b + i)) (phi N) raw))) n = Q
  have loop : ∀ i, i ≤ phi N → ab_Ev X l i_Mod_gather 3 [some (.ref 90), some (.ref 116), some (.int (nI b)), some (.long tm), none, some (.int (nI t)), some (.int (b01 mir)), some (.int (nI i))] [] (va_up (va_up (va_up w 90 (oMod s wd tn)) 114 (aJ 60 (gaF (fun i => if mir = true then (t + N - i) % N else (t + i) % N) (fun i => tm * g (b + i)) i raw))) 116 (aJ L g)) n 0 0 Q := by
    refine ab_up (phi N) ?_ (fun i hi ih => ?_)
    · refine ab_sound ok_213 [3] 50 ?_
      refine And.intro (fun _ => ?_) (fun h_9 => absurd ((by rw [hs2]; exact nI_le (Nat.le_refl _) (by omega))) h_9)
      subst hQ
      exact ⟨rfl, (by first | rfl | (simp only [va_uu, va_uc, Nat.reduceLT]; done) | (simp only [va_uu, va_uc, Nat.reduceLT]; rfl)), rfl⟩
    · refine ab_sound ok_213 [3] 80 ?_
      refine And.intro (fun h_9 => absurd h_9 ((by rw [hs2]; exact nI_ge hi (by omega)))) (fun _ => ?_)
      have rest : ∀ v : Nat, v < 60 → v = (if mir = true then (t + N - i) % N else (t + i) % N) → vp_in (nI v) 60 := fun v hv _ => vp_in_nI hv (by omega)
      cases mir with
      | false =>
        refine And.intro (fun _ => ?_) (fun h_9 => absurd (rfl) h_9)
        have e : md (nI t + nI i).toInt64.toInt N = (t + i) % N := by rw [nI_add, nI_l (by omega), lN_toInt (by omega), md_nat]
        have hv : (t + i) % N < N := Nat.mod_lt _ (by omega)
        (refine Exists.intro 0 ?_; refine ⟨0, _, Nat.zero_le _, Nat.zero_le _, c_Mod_by _ N (by omega) (by omega) _ _ rfl hs, ?_⟩; rintro _ _ _ ⟨rfl, rfl, rfl⟩)
        rw [e]
        refine And.intro (vp_in_nI (by omega) (by omega)) ?_
        refine And.intro ((by rw [nI_add]; exact vp_in_nI (by omega) (by omega))) ?_
        refine And.intro (vp_in_nI (by omega) (by omega)) ?_
        refine ab_ev_of ih (by rw [nI_s i]; rfl) rfl ?_
        rw [nI_add, nI_clamp (by omega), nI_clamp (by omega)]
        exact (by first | rfl | (simp only [va_uu, va_uc, Nat.reduceLT]; done) | (simp only [va_uu, va_uc, Nat.reduceLT]; rfl))
      | true =>
        refine And.intro (fun h_9 => absurd h_9 ((by decide))) (fun _ => ?_)
        have e : md (nI t + -nI i).toInt64.toInt N = (t + N - i) % N := by
          rw [← Int32.sub_eq_add_neg, Int32.toInt_toInt64, pk_sub_toInt (by omega) (by omega)]
          unfold md
          have e2 : ((t : Int) - (i : Int)) % (N : Int) = (((t + N - i : Nat)) : Int) % (N : Int) := by
            rw [show (((t + N - i : Nat)) : Int) = ((t : Int) - (i : Int)) + (N : Int) by omega, Int.add_emod_right]
          rw [e2]
          exact md_nat (t + N - i)
        have hv : (t + N - i) % N < N := Nat.mod_lt _ (by omega)
        (refine Exists.intro 0 ?_; refine ⟨0, _, Nat.zero_le _, Nat.zero_le _, c_Mod_by _ N (by omega) (by omega) _ _ rfl hs, ?_⟩; rintro _ _ _ ⟨rfl, rfl, rfl⟩)
        rw [e]
        refine And.intro (vp_in_nI (by omega) (by omega)) ?_
        refine And.intro ((by rw [nI_add]; exact vp_in_nI (by omega) (by omega))) ?_
        refine And.intro (vp_in_nI (by omega) (by omega)) ?_
        refine ab_ev_of ih (by rw [nI_s i]; rfl) rfl ?_
        rw [nI_add, nI_clamp (by omega), nI_clamp (by omega)]
        exact (by first | rfl | (simp only [va_uu, va_uc, Nat.reduceLT]; done) | (simp only [va_uu, va_uc, Nat.reduceLT]; rfl))
  exact ab_ev_of (loop 0 (by omega)) rfl rfl rfl
theorem c_Mod_gather_117 (x z mr : Int32) (tm : Int64) (N b L t : Nat) (w : ab_W) (n : Nat) {s : Nat → Int32} {wd tn : Int64} {raw g : Nat → Int64} (mir : Bool) (hmr : mr = b01 mir) (hx : x = nI b) (hz : z = nI t) (hN : N ≤ 60) (hN3 : 3 ≤ N) (ht : t < N) (hb : b + 60 ≤ L) (hL : L ≤ 30000) (hs : s 38 = nI N) (hs2 : s 39 = nI (phi N)) (h0 : w 90 = oMod s wd tn) (h2 : w 114 = aJ 60 raw) (h3 : w 117 = aJ L g) : ab_C X l i_Mod_gather [.ref 90, .ref 117, .int x, .long tm, .int z, .int mr] w n 0 0 (ab_q1 none (va_up w 114 (aJ 60 (gaF (fun i => if mir = true then (t + N - i) % N else (t + i) % N) (fun i => tm * g (b + i)) (phi N) raw))) n) := by
  subst hx hz hmr
  obtain ⟨w, rfl⟩ := va_ex3 h3 h2 h0
  have hp := phi_le N hN
  have hlt := phi_lt N hN hN3
  refine ab_metV cd_213 om_213 rfl rfl (ab_sound ok_213 [3] 50 ?_)
  generalize hQ : ab_q1 none (va_up (va_up (va_up (va_up w 90 (oMod s wd tn)) 114 (aJ 60 raw)) 117 (aJ L g)) 114 (aJ 60 (gaF (fun i => if mir = true then (t + N - i) % N else (t + i) % N) (fun i => tm * g (b + i)) (phi N) raw))) n = Q
  have loop : ∀ i, i ≤ phi N → ab_Ev X l i_Mod_gather 3 [some (.ref 90), some (.ref 117), some (.int (nI b)), some (.long tm), none, some (.int (nI t)), some (.int (b01 mir)), some (.int (nI i))] [] (va_up (va_up (va_up w 90 (oMod s wd tn)) 114 (aJ 60 (gaF (fun i => if mir = true then (t + N - i) % N else (t + i) % N) (fun i => tm * g (b + i)) i raw))) 117 (aJ L g)) n 0 0 Q := by
    refine ab_up (phi N) ?_ (fun i hi ih => ?_)
    · refine ab_sound ok_213 [3] 50 ?_
      refine And.intro (fun _ => ?_) (fun h_9 => absurd ((by rw [hs2]; exact nI_le (Nat.le_refl _) (by omega))) h_9)
      subst hQ
      exact ⟨rfl, (by first | rfl | (simp only [va_uu, va_uc, Nat.reduceLT]; done) | (simp only [va_uu, va_uc, Nat.reduceLT]; rfl)), rfl⟩
    · refine ab_sound ok_213 [3] 80 ?_
      refine And.intro (fun h_9 => absurd h_9 ((by rw [hs2]; exact nI_ge hi (by omega)))) (fun _ => ?_)
      have rest : ∀ v : Nat, v < 60 → v = (if mir = true then (t + N - i) % N else (t + i) % N) → vp_in (nI v) 60 := fun v hv _ => vp_in_nI hv (by omega)
      cases mir with
      | false =>
        refine And.intro (fun _ => ?_) (fun h_9 => absurd (rfl) h_9)
        have e : md (nI t + nI i).toInt64.toInt N = (t + i) % N := by rw [nI_add, nI_l (by omega), lN_toInt (by omega), md_nat]
        have hv : (t + i) % N < N := Nat.mod_lt _ (by omega)
        (refine Exists.intro 0 ?_; refine ⟨0, _, Nat.zero_le _, Nat.zero_le _, c_Mod_by _ N (by omega) (by omega) _ _ rfl hs, ?_⟩; rintro _ _ _ ⟨rfl, rfl, rfl⟩)
        rw [e]
        refine And.intro (vp_in_nI (by omega) (by omega)) ?_
        refine And.intro ((by rw [nI_add]; exact vp_in_nI (by omega) (by omega))) ?_
        refine And.intro (vp_in_nI (by omega) (by omega)) ?_
        refine ab_ev_of ih (by rw [nI_s i]; rfl) rfl ?_
        rw [nI_add, nI_clamp (by omega), nI_clamp (by omega)]
        exact (by first | rfl | (simp only [va_uu, va_uc, Nat.reduceLT]; done) | (simp only [va_uu, va_uc, Nat.reduceLT]; rfl))
      | true =>
        refine And.intro (fun h_9 => absurd h_9 ((by decide))) (fun _ => ?_)
        have e : md (nI t + -nI i).toInt64.toInt N = (t + N - i) % N := by
          rw [← Int32.sub_eq_add_neg, Int32.toInt_toInt64, pk_sub_toInt (by omega) (by omega)]
          unfold md
          have e2 : ((t : Int) - (i : Int)) % (N : Int) = (((t + N - i : Nat)) : Int) % (N : Int) := by
            rw [show (((t + N - i : Nat)) : Int) = ((t : Int) - (i : Int)) + (N : Int) by omega, Int.add_emod_right]
          rw [e2]
          exact md_nat (t + N - i)
        have hv : (t + N - i) % N < N := Nat.mod_lt _ (by omega)
        (refine Exists.intro 0 ?_; refine ⟨0, _, Nat.zero_le _, Nat.zero_le _, c_Mod_by _ N (by omega) (by omega) _ _ rfl hs, ?_⟩; rintro _ _ _ ⟨rfl, rfl, rfl⟩)
        rw [e]
        refine And.intro (vp_in_nI (by omega) (by omega)) ?_
        refine And.intro ((by rw [nI_add]; exact vp_in_nI (by omega) (by omega))) ?_
        refine And.intro (vp_in_nI (by omega) (by omega)) ?_
        refine ab_ev_of ih (by rw [nI_s i]; rfl) rfl ?_
        rw [nI_add, nI_clamp (by omega), nI_clamp (by omega)]
        exact (by first | rfl | (simp only [va_uu, va_uc, Nat.reduceLT]; done) | (simp only [va_uu, va_uc, Nat.reduceLT]; rfl))
  exact ab_ev_of (loop 0 (by omega)) rfl rfl rfl
theorem c_Mod_gather_118 (x z mr : Int32) (tm : Int64) (N b L t : Nat) (w : ab_W) (n : Nat) {s : Nat → Int32} {wd tn : Int64} {raw g : Nat → Int64} (mir : Bool) (hmr : mr = b01 mir) (hx : x = nI b) (hz : z = nI t) (hN : N ≤ 60) (hN3 : 3 ≤ N) (ht : t < N) (hb : b + 60 ≤ L) (hL : L ≤ 30000) (hs : s 38 = nI N) (hs2 : s 39 = nI (phi N)) (h0 : w 90 = oMod s wd tn) (h2 : w 114 = aJ 60 raw) (h3 : w 118 = aJ L g) : ab_C X l i_Mod_gather [.ref 90, .ref 118, .int x, .long tm, .int z, .int mr] w n 0 0 (ab_q1 none (va_up w 114 (aJ 60 (gaF (fun i => if mir = true then (t + N - i) % N else (t + i) % N) (fun i => tm * g (b + i)) (phi N) raw))) n) := by
  subst hx hz hmr
  obtain ⟨w, rfl⟩ := va_ex3 h3 h2 h0
  have hp := phi_le N hN
  have hlt := phi_lt N hN hN3
  refine ab_metV cd_213 om_213 rfl rfl (ab_sound ok_213 [3] 50 ?_)
  generalize hQ : ab_q1 none (va_up (va_up (va_up (va_up w 90 (oMod s wd tn)) 114 (aJ 60 raw)) 118 (aJ L g)) 114 (aJ 60 (gaF (fun i => if mir = true then (t + N - i) % N else (t + i) % N) (fun i => tm * g (b + i)) (phi N) raw))) n = Q
  have loop : ∀ i, i ≤ phi N → ab_Ev X l i_Mod_gather 3 [some (.ref 90), some (.ref 118), some (.int (nI b)), some (.long tm), none, some (.int (nI t)), some (.int (b01 mir)), some (.int (nI i))] [] (va_up (va_up (va_up w 90 (oMod s wd tn)) 114 (aJ 60 (gaF (fun i => if mir = true then (t + N - i) % N else (t + i) % N) (fun i => tm * g (b + i)) i raw))) 118 (aJ L g)) n 0 0 Q := by
    refine ab_up (phi N) ?_ (fun i hi ih => ?_)
    · refine ab_sound ok_213 [3] 50 ?_
      refine And.intro (fun _ => ?_) (fun h_9 => absurd ((by rw [hs2]; exact nI_le (Nat.le_refl _) (by omega))) h_9)
      subst hQ
      exact ⟨rfl, (by first | rfl | (simp only [va_uu, va_uc, Nat.reduceLT]; done) | (simp only [va_uu, va_uc, Nat.reduceLT]; rfl)), rfl⟩
    · refine ab_sound ok_213 [3] 80 ?_
      refine And.intro (fun h_9 => absurd h_9 ((by rw [hs2]; exact nI_ge hi (by omega)))) (fun _ => ?_)
      have rest : ∀ v : Nat, v < 60 → v = (if mir = true then (t + N - i) % N else (t + i) % N) → vp_in (nI v) 60 := fun v hv _ => vp_in_nI hv (by omega)
      cases mir with
      | false =>
        refine And.intro (fun _ => ?_) (fun h_9 => absurd (rfl) h_9)
        have e : md (nI t + nI i).toInt64.toInt N = (t + i) % N := by rw [nI_add, nI_l (by omega), lN_toInt (by omega), md_nat]
        have hv : (t + i) % N < N := Nat.mod_lt _ (by omega)
        (refine Exists.intro 0 ?_; refine ⟨0, _, Nat.zero_le _, Nat.zero_le _, c_Mod_by _ N (by omega) (by omega) _ _ rfl hs, ?_⟩; rintro _ _ _ ⟨rfl, rfl, rfl⟩)
        rw [e]
        refine And.intro (vp_in_nI (by omega) (by omega)) ?_
        refine And.intro ((by rw [nI_add]; exact vp_in_nI (by omega) (by omega))) ?_
        refine And.intro (vp_in_nI (by omega) (by omega)) ?_
        refine ab_ev_of ih (by rw [nI_s i]; rfl) rfl ?_
        rw [nI_add, nI_clamp (by omega), nI_clamp (by omega)]
        exact (by first | rfl | (simp only [va_uu, va_uc, Nat.reduceLT]; done) | (simp only [va_uu, va_uc, Nat.reduceLT]; rfl))
      | true =>
        refine And.intro (fun h_9 => absurd h_9 ((by decide))) (fun _ => ?_)
        have e : md (nI t + -nI i).toInt64.toInt N = (t + N - i) % N := by
          rw [← Int32.sub_eq_add_neg, Int32.toInt_toInt64, pk_sub_toInt (by omega) (by omega)]
          unfold md
          have e2 : ((t : Int) - (i : Int)) % (N : Int) = (((t + N - i : Nat)) : Int) % (N : Int) := by
            rw [show (((t + N - i : Nat)) : Int) = ((t : Int) - (i : Int)) + (N : Int) by omega, Int.add_emod_right]
          rw [e2]
          exact md_nat (t + N - i)
        have hv : (t + N - i) % N < N := Nat.mod_lt _ (by omega)
        (refine Exists.intro 0 ?_; refine ⟨0, _, Nat.zero_le _, Nat.zero_le _, c_Mod_by _ N (by omega) (by omega) _ _ rfl hs, ?_⟩; rintro _ _ _ ⟨rfl, rfl, rfl⟩)
        rw [e]
        refine And.intro (vp_in_nI (by omega) (by omega)) ?_
        refine And.intro ((by rw [nI_add]; exact vp_in_nI (by omega) (by omega))) ?_
        refine And.intro (vp_in_nI (by omega) (by omega)) ?_
        refine ab_ev_of ih (by rw [nI_s i]; rfl) rfl ?_
        rw [nI_add, nI_clamp (by omega), nI_clamp (by omega)]
        exact (by first | rfl | (simp only [va_uu, va_uc, Nat.reduceLT]; done) | (simp only [va_uu, va_uc, Nat.reduceLT]; rfl))
  exact ab_ev_of (loop 0 (by omega)) rfl rfl rfl
end PROD
