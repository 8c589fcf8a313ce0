/-! a point put right -/
theorem ScIs.congr {g0 m b : Nat} {a a2 : Nat → Nat} {o : Option Nat} (h : ScIs g0 a m b o) (e : ∀ x, x < m → a x = a2 x) : ScIs g0 a2 m b o := by
  cases o with
  | none => exact ⟨h.1, fun x hx => by rw [← e x hx]; exact h.2 x hx⟩
  | some y =>
    obtain ⟨p1, p2, p3, p4, p5⟩ := h
    exact ⟨p1, by rw [← e y p1]; exact p2, p3, fun x hx => by rw [← e x hx]; exact p4 x hx, fun x hx => by rw [← e x (by omega)]; exact p5 x hx⟩
theorem red_up (N i ix : Nat) (v : Int64) (f : Nat → Int64) (h : ix < N) : redV N (vp_updL f ix (f ix + v)) i = redV N f i + v * Int64.ofInt (pw N ix i) := by
  have := red_ga N i (fun _ => ix) (fun _ => v) f 1 (fun _ _ => h)
  have e : sumL (fun j => (fun _ : Nat => v) j * Int64.ofInt (pw N ((fun _ : Nat => ix) j) i)) 1 = v * Int64.ofInt (pw N ix i) := by
    show (0 : Int64) + v * Int64.ofInt (pw N ix i) = _
    rw [Int64.zero_add]
  rw [e] at this
  exact this
def spF (N : Nat) (r A : Nat → Int64) (e : Nat) : Nat → (Nat → Int64) → (Nat → Int64)
  | 0, g => g
  | i + 1, g => vp_updL (vp_updL (spF N r A e i g) i (spF N r A e i g i + r i)) ((i + e) % N) (vp_updL (spF N r A e i g) i (spF N r A e i g i + r i) ((i + e) % N) + -(A i))
theorem red_sp (N i e : Nat) (hN : 0 < N) (r A g : Nat → Int64) : ∀ m, m ≤ N → redV N (spF N r A e m g) i = redV N g i + (sumL (fun j => r j * Int64.ofInt (pw N j i)) m - sumL (fun j => A j * Int64.ofInt (pw N ((j + e) % N) i)) m)
  | 0, _ => by
    show redV N g i = redV N g i + (0 - 0)
    grind
  | m + 1, h => by
    show redV N (vp_updL (vp_updL (spF N r A e m g) m (spF N r A e m g m + r m)) ((m + e) % N) (vp_updL (spF N r A e m g) m (spF N r A e m g m + r m) ((m + e) % N) + -(A m))) i = redV N g i + ((sumL (fun j => r j * Int64.ofInt (pw N j i)) m + r m * Int64.ofInt (pw N m i)) - (sumL (fun j => A j * Int64.ofInt (pw N ((j + e) % N) i)) m + A m * Int64.ofInt (pw N ((m + e) % N) i)))
    rw [red_up N i ((m + e) % N) (-(A m)) _ (Nat.mod_lt _ hN), red_up N i m (r m) _ (by omega), red_sp N i e hN r A g m (by omega)]
    grind
theorem red_sp2 {N : Nat} (hM : 3 ≤ N ∧ N ≤ 60) (i e : Nat) (hi : i < phi N) (r A : Nat → Int64) : redV N (spF N r A e (phi N) Z0) i = r i - tv N e A i := by
  have hp2 := phi_lt N hM.2 hM.1
  rw [red_sp N i e (by omega) r A Z0 (phi N) (by omega), red_Z, Int64.zero_add]
  have e1 := tv_0 (N := N) r hi
  unfold tv at e1 ⊢
  have e2 : sumL (fun j => r j * Int64.ofInt (pw N j i)) (phi N) = r i := by
    rw [← e1]
    exact sumL_congr _ (fun j _ => by rw [Nat.zero_add])
  rw [e2]
  congr 1
  exact sumL_congr _ (fun j _ => by rw [pw_mod N hM.2 hM.1, Nat.add_comm])
theorem e60_sp {N : Nat} (hM : 3 ≤ N ∧ N ≤ 60) (r A : Nat → Int64) (e : Nat) {g h : Nat → Int64} (q : E60 g h) : ∀ m, m ≤ 60 → E60 (spF N r A e m g) (spF N r A e m h)
  | 0, _ => q
  | m + 1, hm => by
    have ih := e60_sp hM r A e q m (by omega)
    have h1 : E60 (vp_updL (spF N r A e m g) m (spF N r A e m g m + r m)) (vp_updL (spF N r A e m h) m (spF N r A e m h m + r m)) := e60_upd ih rfl (by rw [ih m (by omega)])
    have hlt : (m + e) % N < 60 := Nat.lt_of_lt_of_le (Nat.mod_lt _ (by omega)) hM.2
    exact e60_upd h1 rfl (by rw [h1 _ hlt])
section RIGHT
variable {X : ab_X} {l : Launch}
theorem k_setInPlace (x : Int32) (f k q a N : Nat) (w : ab_W) (n : Nat) {R A : Nat → Nat → Int64} {kp cs mo ma : Int32} {g g2 : Nat → Int64} (hx : x = nI f) (hf : f < N) (hk : k < N) (hS : KSums w N) (hA : ShIs w q N a R) (h27 : w 27 = oTold (nI N) (nI (phi N)) kp (nI k) cs mo ma) (h28 : w 28 = aJ 3480 g) (hg : Rw N g A) (h32 : w 32 = aJ 58 g2) :
    ab_C X l i_Told_setInPlace [.ref 27, .ref 17, .ref q, .int x] w n 0 0 (qV fun w' n' => n = n' ∧ Fr (fun k => k = 19 ∨ k = 27 ∨ k = 32) w w' ∧ KSums w' N ∧ w' 27 = oTold (nI N) (nI (phi N)) kp (nI k) (nI (phi N)) mo ma ∧ ∃ c, w' 32 = aJ 58 c ∧ ∀ i, i < phi N → c i = R k i - tv N (f * k) (A f) i) := by
  subst hx
  have hM := hS.1
  have hp := phi_le N hM.2
  have hp1 := phi_ge N hM.2 hM.1
  have hp2 := phi_lt N hM.2 hM.1
  have hfk := fk_lt hM.2 hf hk
  have hfk2 : f * k ≤ 60 * 60 := Nat.mul_le_mul (by omega) (by omega)
  obtain ⟨-, c, F, s1, s2, s3, s4⟩ := id hS
  obtain ⟨w, rfl⟩ := va_ex4 s3 s1 h27 h28
  refine ab_mqV cd_99 om_99 rfl rfl (ab_sound ok_99 [7] 80 ?_)
  (refine Exists.intro 0 ?_; refine ⟨0, _, Nat.zero_le _, Nat.zero_le _, c_Sums_clear _ _ rfl rfl, ?_⟩; refine ab_q1_elim ?_)
  rw [va_uu]
  generalize hQ : (qV fun w' n' => n = n' ∧ Fr (fun k => k = 19 ∨ k = 27 ∨ k = 32) (va_up (va_up (va_up (va_up w 28 (aJ 3480 g)) 27 (oTold (nI N) (nI (phi N)) kp (nI k) cs mo ma)) 17 (oSums (nI N) (nI (phi N)))) 19 (aJ 60 F)) w' ∧ KSums w' N ∧ w' 27 = oTold (nI N) (nI (phi N)) kp (nI k) (nI (phi N)) mo ma ∧ ∃ c, w' 32 = aJ 58 c ∧ ∀ i, i < phi N → c i = R k i - tv N (f * k) (A f) i) = Q
  have loop : ∀ i, i ≤ phi N → ab_Ev X l i_Told_setInPlace 7 [some (.ref 27), some (.ref 17), some (.ref q), some (.int (nI f)), some (.int (nI i))] [] (va_up (va_up (va_up (va_up w 28 (aJ 3480 g)) 27 (oTold (nI N) (nI (phi N)) kp (nI k) cs mo ma)) 17 (oSums (nI N) (nI (phi N)))) 19 (aJ 60 (spF N (R k) (A f) (f * k) i (zb 60 F)))) n 0 0 Q := by
    refine ab_up (phi N) ?_ (fun i hi ih => ?_)
    · refine ab_sound ok_99 [7] 80 ?_
      refine And.intro (fun _ => ?_) (fun h_9 => absurd (nI_le (Nat.le_refl _) (by omega)) h_9)
      (refine Exists.intro 0 ?_; refine ⟨0, _, Nat.zero_le _, Nat.zero_le _, c_Sums_reduce N (phi N) _ _ (by omega) (by omega) hM.2 hp rfl s2 rfl, ?_⟩; refine ab_q1_elim ?_)
      rw [va_uu]
      (refine Exists.intro 0 ?_; refine ⟨0, _, Nat.zero_le _, Nat.zero_le _, c_Sums_store_32 0 (phi N) 58 _ _ (by omega) (by omega) (by omega) (by omega) rfl rfl h32, ?_⟩; refine ab_q1_elim ?_)
      subst hQ
      have f3 : Fr (fun k => k = 19 ∨ k = 27 ∨ k = 32) (va_up (va_up (va_up (va_up w 28 (aJ 3480 g)) 27 (oTold (nI N) (nI (phi N)) kp (nI k) cs mo ma)) 17 (oSums (nI N) (nI (phi N)))) 19 (aJ 60 F)) (va_up (va_up (va_up (va_up (va_up w 28 (aJ 3480 g)) 27 (oTold (nI N) (nI (phi N)) kp (nI k) cs mo ma)) 17 (oSums (nI N) (nI (phi N)))) 19 (aJ 60 (redD (phi N) c (N - phi N) (spF N (R k) (A f) (f * k) (phi N) (zb 60 F))))) 32 (aJ 58 (stF (0 * phi N) (phi N) (redD (phi N) c (N - phi N) (spF N (R k) (A f) (f * k) (phi N) (zb 60 F))) g2))) := fun k hk => ((va_un (by omega)).trans (va_un (by omega))).trans (va_un (by omega)).symm
      have f4 := f3.up (k := 27) (c := oTold (nI N) (nI (phi N)) kp (nI k) (nI (phi N)) mo ma) (by omega)
      refine ⟨rfl, rfl, f4, ⟨hM, c, _, rfl, f4.get s2 (by omega), rfl, s4⟩, rfl, _, rfl, fun i hi => ?_⟩
      unfold stF
      rw [if_pos (by omega), show i - 0 * phi N = i by omega, red_allc N hM.2 hM.1 s4 i hi, e60_red hM.2 (e60_sp hM (R k) (A f) (f * k) (e60_zb F) (phi N) (by omega)) i]
      exact red_sp2 hM i (f * k) hi (R k) (A f)
    · have hA4 : ∀ F, ShIs (va_up (va_up (va_up (va_up w 28 (aJ 3480 g)) 27 (oTold (nI N) (nI (phi N)) kp (nI k) cs mo ma)) 17 (oSums (nI N) (nI (phi N)))) 19 (aJ 60 F)) q N a R := fun F => hA.re (by omega)
      have hlt := kp_lt hM.2 hf hi
      refine ab_sound ok_99 [7] 80 ?_
      refine And.intro (fun h_9 => absurd h_9 (nI_ge hi (by omega))) (fun _ => ?_)
      refine And.intro (⟨_, (hA4 _).1⟩) ?_
      (refine Exists.intro 0 ?_; refine ⟨0, _, Nat.zero_le _, Nat.zero_le _, c_number _ _ q a N k i _ _ rfl rfl hM.2 hk hi (hA4 _), ?_⟩; refine ab_q1_elim ?_)
      (refine Exists.intro 0 ?_; refine ⟨0, _, Nat.zero_le _, Nat.zero_le _, c_Sums_add _ i (R k i) _ _ rfl (by omega) rfl rfl, ?_⟩; refine ab_q1_elim ?_)
      rw [va_uu]
      (refine Exists.intro 0 ?_; refine ⟨0, _, Nat.zero_le _, Nat.zero_le _, c_WP_wrap _ N (by omega) (by omega) _ _, ?_⟩; refine ab_q1_elim ?_)
      rw [show md (nI i + nI f * nI k).toInt N = (i + f * k) % N by rw [pk_mul, nI_add, nI_toInt (by omega), md_nat]]
      have hlt2 : (i + f * k) % N < N := Nat.mod_lt _ (by omega)
      refine And.intro ((by rw [pk_mul, nI_add]; exact vp_in_nI hlt (by omega))) ?_
      rw [pk_mul, nI_add, nI_clamp (by omega), hg f i hf hi]
      (refine Exists.intro 0 ?_; refine ⟨0, _, Nat.zero_le _, Nat.zero_le _, c_Sums_add _ ((i + f * k) % N) (-(A f i)) _ _ rfl (by omega) rfl rfl, ?_⟩; refine ab_q1_elim ?_)
      rw [va_uu]
      exact ab_ev_of ih (by rw [nI_s i]; rfl) rfl rfl
  exact ab_ev_of (loop 0 (by omega)) rfl rfl rfl
theorem k_putRight (q a N : Nat) (w : ab_W) (n : Nat) {R A : Nat → Nat → Int64} {kp ch cs mo ma K : Int32} {g g2 : Nat → Int64} {kd td : Nat → Int32} (hS : KSums w N) (hA : ShIs w q N a R) (h27 : w 27 = oTold (nI N) (nI (phi N)) kp ch cs mo ma) (h28 : w 28 = aJ 3480 g) (hg : Rw N g A) (h32 : w 32 = aJ 58 g2) (h20 : w 20 = oOrb (nI N) (nI (phi N)) K) (h25 : w 25 = aI 120 kd) (h26 : w 26 = aI 120 td) :
    ab_C X l i_Told_putRight [.ref 27, .ref 17, .ref q, .ref 20] w n 0 0 (fun v w' n' => n = n' ∧ ∃ (b : Nat) (o : Option Nat) (cs' mo' ma' : Int32), v = some (.int (nI N - nI b)) ∧ ScIs (cnt (fun f => decide (kd f = nI 0)) N) (aX N (alV N kd td)) (N * N) b o ∧ Fr (fun k => k = 19 ∨ k = 27 ∨ k = 32) w w' ∧ KSums w' N ∧ w' 27 = oTold (nI N) (nI (phi N)) kp (chV N o) cs' mo' ma' ∧ ∃ c, w' 32 = aJ 58 c ∧ ∀ y, o = some y → cs' = nI (phi N) ∧ ∀ i, i < phi N → c i = R (y / N) i - tv N (y % N * (y / N)) (A (y % N)) i) := by
  have hM := hS.1
  generalize hQ : (fun (v : Option Value) (w' : ab_W) (n' : Nat) => n = n' ∧ ∃ (b : Nat) (o : Option Nat) (cs' mo' ma' : Int32), v = some (.int (nI N - nI b)) ∧ ScIs (cnt (fun f => decide (kd f = nI 0)) N) (aX N (alV N kd td)) (N * N) b o ∧ Fr (fun k => k = 19 ∨ k = 27 ∨ k = 32) w w' ∧ KSums w' N ∧ w' 27 = oTold (nI N) (nI (phi N)) kp (chV N o) cs' mo' ma' ∧ ∃ c, w' 32 = aJ 58 c ∧ ∀ y, o = some y → cs' = nI (phi N) ∧ ∀ i, i < phi N → c i = R (y / N) i - tv N (y % N * (y / N)) (A (y % N)) i) = Q
  generalize hG0 : cnt (fun f => decide (kd f = nI 0)) N = G0 at *
  have hG0N : G0 ≤ N := by rw [← hG0]; exact cnt_le _ _
  have loop : ∀ k, k ≤ N → ∀ (b : Nat) (o : Option Nat) (mo2 ma2 l5 : Int32) (w3 : ab_W), Fr (fun k => k = 27) w w3 → w3 27 = oTold (nI N) (nI (phi N)) kp (chV N o) cs mo2 ma2 → ScIs G0 (aX N (alV N kd td)) (k * N) b o → (∀ y, o = some y → l5 = nI (y % N)) → ab_Ev X l i_Told_putRight 52 [some (.ref 27), some (.ref 17), some (.ref q), some (.ref 20), some (.int (nI b)), some (.int l5), some (.int (nI k))] [] w3 n 0 0 Q := by
    refine ab_up N ?_ (fun k hk ih => ?_)
    · intro b o mo2 ma2 l5 w3 hf h27 hs hl
      have hS3 := hS.fr hf (by omega) (by omega) (by omega)
      have hA3 := hA.frS hf (fun k hk => by unfold FS; omega)
      have h28' := hf.get h28 (by omega)
      have h32' := hf.get h32 (by omega)
      cases o with
      | none =>
        obtain ⟨w3, rfl⟩ := va_ex h27
        refine ab_sound ok_97 [52] 80 ?_
        refine And.intro (fun _ => ?_) (fun h_9 => absurd (nI_le (Nat.le_refl _) (by omega)) h_9)
        refine And.intro (fun _ => ?_) (fun h_9 => absurd (rfl) h_9)
        subst hQ
        exact ⟨rfl, b, none, cs, mo2, ma2, rfl, hs, hf.mono (fun k hk => by omega), hS3, rfl, g2, h32', fun y hy => by cases hy⟩
      | some y =>
        have hy := hs.1
        have hyk : y / N < N := Nat.div_lt_of_lt_mul hy
        have hyf : y % N < N := Nat.mod_lt _ (by omega)
        obtain ⟨w3, rfl⟩ := va_ex h27
        refine ab_sound ok_97 [52] 80 ?_
        refine And.intro (fun _ => ?_) (fun h_9 => absurd (nI_le (Nat.le_refl _) (by omega)) h_9)
        refine And.intro (fun h_9 => absurd h_9 (nI_nn (show y / N < 2 ^ 31 by omega))) (fun _ => ?_)
        (refine Exists.intro 0 ?_; refine ⟨0, _, Nat.zero_le _, Nat.zero_le _, k_setInPlace _ (y % N) (y / N) q a N _ _ (hl y rfl) hyf hyk hS3 hA3 h27 h28' hg h32', ?_⟩; rintro _ w4 _ ⟨rfl, rfl, f4, hS4, h4, c, h5, h6⟩)
        obtain ⟨w4, rfl⟩ := va_ex h4
        subst hQ
        exact ⟨rfl, b, some y, nI (phi N), mo2, ma2, rfl, hs, hf.tr f4 (fun k hk => by omega) (fun k hk => hk), hS4, rfl, c, h5, fun z hz => by cases hz; exact ⟨rfl, h6⟩⟩
    · intro b o mo2 ma2 l5 w3 hf h27 hs hl
      have k20 := hf.get h20 (by omega)
      have k25 := hf.get h25 (by omega)
      have k26 := hf.get h26 (by omega)
      have hbN : b ≤ N := by
        cases o with
        | none => have := hs.1; omega
        | some y => have := hs.2.1; rw [this]; exact alV_le _ _ _ _ _
      obtain ⟨w3, rfl⟩ := va_ex h27
      refine ab_sound ok_97 [52] 80 ?_
      refine And.intro (fun h_9 => absurd h_9 (nI_ge hk (by omega))) (fun _ => ?_)
      (refine Exists.intro 0 ?_; refine ⟨0, _, Nat.zero_le _, Nat.zero_le _, k_findMostAlike _ k N _ _ rfl hk hM h27 k20 k25 k26, ?_⟩; rintro _ _ _ ⟨rfl, rfl, b2, o2, ma', rfl, hs2, ho2⟩)
      rw [va_uu]
      have hs2' : ScIs 0 (fun f => aX N (alV N kd td) (k * N + f)) N b2 o2 := hs2.congr (fun x hx => (aX_at _ hx).symm)
      have hrow := hs.row hs2'
      have hb2N : b2 ≤ N := by
        cases o2 with
        | none => have := hs2.1; omega
        | some y => have := hs2.2.1; rw [this]; exact alV_le _ _ _ _ _
      rw [show k * N + N = (k + 1) * N by rw [Nat.add_mul, Nat.one_mul]] at hrow
      have f9 : ∀ c, Fr (fun k => k = 27) w (va_up w3 27 c) := fun c j hj => (va_un hj).trans ((va_un hj).symm.trans (hf j hj))
      by_cases e : b2 ≤ b
      · rw [if_pos e, if_pos e] at hrow
        refine And.intro (fun _ => ?_) (fun h_9 => absurd (nI_le e (by omega)) h_9)
        exact ab_ev_of (ih b o (nI b2) ma' l5 _ (f9 _) va_us hrow hl) (by rw [nI_s k]; rfl) rfl rfl
      · rw [if_neg e, if_neg e] at hrow
        cases o2 with
        | none => have := hs2.1; omega
        | some y2 =>
          have hy2 := hs2.1
          refine And.intro (fun h_9 => absurd h_9 (nI_ge (by omega) (by omega))) (fun _ => ?_)
          refine ab_ev_of (ih b2 (some (k * N + y2)) (nI b2) ma' ma' _ (f9 _) ?_ hrow (fun y hy => ?_)) (by rw [nI_s k]; rfl) rfl (by rw [va_uu])
          · rw [va_us]
            show oTold _ _ _ (nI k) _ _ _ = oTold _ _ _ (nI ((k * N + y2) / N)) _ _ _
            rw [(dm_at hy2).1]
          · cases hy
            rw [(dm_at hy2).2]
            exact ho2 y2 rfl
  obtain ⟨w9, rfl⟩ := va_ex3 h27 h20 h25
  have first : ∀ f, f ≤ N → ab_Ev X l i_Told_putRight 11 [some (.ref 27), some (.ref 17), some (.ref q), some (.ref 20), some (.int (nI (cnt (fun f => decide (kd f = nI 0)) f))), some (.int (nI f)), none] [] (va_up (va_up (va_up (va_up w9 25 (aI 120 kd)) 20 (oOrb (nI N) (nI (phi N)) K)) 27 (oTold (nI N) (nI (phi N)) kp ch cs mo ma)) 27 (oTold (nI N) (nI (phi N)) kp (-nI 1) cs mo ma)) n 0 0 Q := by
    refine ab_up N ?_ (fun f hf ih => ?_)
    · refine ab_sound ok_97 [11, 52] 80 ?_
      refine And.intro (fun _ => ?_) (fun h_9 => absurd (nI_le (Nat.le_refl _) (by omega)) h_9)
      rw [hG0]
      refine ab_ev_of (loop 0 (by omega) G0 none mo ma (nI 0) _ (Fr.refl.up rfl) va_us ?_ (fun y hy => by cases hy)) rfl rfl rfl
      rw [Nat.zero_mul]
      exact ScIs.nil _ _
    · rw [cnt_s] at ih
      refine ab_sound ok_97 [11, 52] 80 ?_
      refine And.intro (fun h_9 => absurd h_9 (nI_ge hf (by omega))) (fun _ => ?_)
      refine And.intro (vp_in_nI (by omega) (by omega)) ?_
      rw [nI_clamp (by omega)]
      refine And.intro (fun hc => ?_) (fun hc => ?_)
      · rw [if_neg (by rw [decide_eq_true_iff]; exact hc), Nat.add_zero] at ih
        refine ab_ev_of ih ?_ rfl rfl
        rw [nI_s f]
        show [_, _, _, _, some (Value.int (nI (cnt _ f) + nI 0)), _, _] = _
        rw [nI_add, Nat.add_zero]
      · rw [if_pos (by rw [decide_eq_true_iff]; exact hc)] at ih
        refine ab_ev_of ih ?_ rfl rfl
        rw [nI_s f, nI_s (cnt _ f)]
        rfl
  refine ab_met cd_97 om_97 rfl (by subst hQ; rintro _ _ _ ⟨-, b, o, cs', mo', ma', rfl, -⟩; trivial) (ab_sound ok_97 [11] 80 ?_)
  exact ab_ev_of (first 0 (by omega)) rfl rfl rfl
end RIGHT
