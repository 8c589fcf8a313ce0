section MAPI4
variable {X : ab_X} {l : Launch}
def amB (N p : Nat) (r : Nat → Int64) (S : Nat → Nat → Int64) : Bool := decide (∃ k, k < N ∧ lkB p r (S k) = true)
theorem amB_f {N p : Nat} {r : Nat → Int64} {S : Nat → Nat → Int64} (h : ∀ k, k < N → lkB p r (S k) = false) : amB N p r S = false := by
  rw [← Bool.not_eq_true]
  intro z
  obtain ⟨k, hk, hl⟩ := of_decide_eq_true z
  rw [h k hk] at hl
  cases hl
theorem c_Mod_isAmong_116 (x z : Int32) (N p a b : Nat) (w : ab_W) (n : Nat) {s : Nat → Int32} {wd tn : Int64} {g : Nat → Int64} (hx : x = nI a) (hz : z = nI b) (hN : N ≤ 60) (hp : p ≤ 58) (ha : a + p ≤ 28800) (hb : b + 3600 ≤ 28800) (hs : s 38 = nI N) (hs2 : s 39 = nI p) (h0 : w 90 = oMod s wd tn) (h3 : w 116 = aJ 28800 g) : ab_C X l i_Mod_isAmong [.ref 90, .ref 116, .int x, .ref 116, .int z] w n 0 0 (ab_q1 (some (.int (b01 (amB N p (fun i => g (a + i)) (rowsOf g b))))) w n) := by
  subst hx hz
  obtain ⟨w, rfl⟩ := va_ex2 h3 h0
  refine ab_metI cd_223 om_223 rfl (ab_sound ok_223 [3] 50 ?_)
  have loop : ∀ k, k ≤ N → (∀ m, m < k → lkB p (fun i => g (a + i)) (rowsOf g b m) = false) → ab_Ev X l i_Mod_isAmong 3 [some (.ref 90), some (.ref 116), some (.int (nI a)), some (.ref 116), some (.int (nI b)), some (.int (nI k))] [] (va_up (va_up w 90 (oMod s wd tn)) 116 (aJ 28800 g)) n 0 0 (ab_q1 (some (.int (b01 (amB N p (fun i => g (a + i)) (rowsOf g b))))) (va_up (va_up w 90 (oMod s wd tn)) 116 (aJ 28800 g)) n) := by
    refine ab_up N ?_ (fun k hk ih => ?_)
    · intro hm
      refine ab_sound ok_223 [3] 50 ?_
      refine And.intro (fun _ => ?_) (fun h_9 => absurd ((by rw [hs]; exact nI_le (Nat.le_refl _) (by omega))) h_9)
      rw [amB_f hm]
      exact ⟨rfl, rfl, rfl, rfl⟩
    · intro hm
      refine ab_sound ok_223 [3] 50 ?_
      refine And.intro (fun h_9 => absurd h_9 ((by rw [hs]; exact nI_ge hk (by omega)))) (fun _ => ?_)
      (refine Exists.intro 0 ?_; refine ⟨0, _, Nat.zero_le _, Nat.zero_le _, c_Mod_isLike_116 _ _ p a (b + 60 * k) 28800 _ _ rfl (by rw [pk_mul, nI_add]) hp ha (by omega) (by omega) hs2 rfl rfl, ?_⟩; refine ab_q1_elim ?_)
      cases hc : lkB p (fun i => g (a + i)) (fun i => g (b + 60 * k + i))
      · refine And.intro (fun _ => ?_) (fun h_9 => absurd (rfl) h_9)
        refine ab_ev_of (ih (fun m hm2 => ?_)) (by rw [nI_s k]; rfl) rfl rfl
        by_cases e : m = k
        · rw [e]; exact hc
        · exact hm m (by omega)
      · refine And.intro (fun h_9 => absurd h_9 ((by decide))) (fun _ => ?_)
        rw [show amB N p (fun i => g (a + i)) (rowsOf g b) = true from decide_eq_true ⟨k, hk, hc⟩]
        exact ⟨rfl, rfl, rfl, rfl⟩
  exact loop 0 (by omega) (fun m hm => by omega)
theorem c_Mod_isAmong_116_118 (x z : Int32) (N p a b L M : Nat) (w : ab_W) (n : Nat) {s : Nat → Int32} {wd tn : Int64} {g h : Nat → Int64} (hx : x = nI a) (hz : z = nI b) (hN : N ≤ 60) (hp : p ≤ 58) (ha : a + p ≤ L) (hb : b + 3600 ≤ M) (hL : L ≤ 30000) (hM : M ≤ 30000) (hs : s 38 = nI N) (hs2 : s 39 = nI p) (h0 : w 90 = oMod s wd tn) (h3 : w 116 = aJ L g) (h4 : w 118 = aJ M h) : ab_C X l i_Mod_isAmong [.ref 90, .ref 116, .int x, .ref 118, .int z] w n 0 0 (ab_q1 (some (.int (b01 (amB N p (fun i => g (a + i)) (rowsOf h b))))) w n) := by
  subst hx hz
  obtain ⟨w, rfl⟩ := va_ex3 h4 h3 h0
  refine ab_metI cd_223 om_223 rfl (ab_sound ok_223 [3] 50 ?_)
  have loop : ∀ k, k ≤ N → (∀ m, m < k → lkB p (fun i => g (a + i)) (rowsOf h b m) = false) → ab_Ev X l i_Mod_isAmong 3 [some (.ref 90), some (.ref 116), some (.int (nI a)), some (.ref 118), some (.int (nI b)), some (.int (nI k))] [] (va_up (va_up (va_up w 90 (oMod s wd tn)) 116 (aJ L g)) 118 (aJ M h)) n 0 0 (ab_q1 (some (.int (b01 (amB N p (fun i => g (a + i)) (rowsOf h b))))) (va_up (va_up (va_up w 90 (oMod s wd tn)) 116 (aJ L g)) 118 (aJ M h)) n) := by
    refine ab_up N ?_ (fun k hk ih => ?_)
    · intro hm
      refine ab_sound ok_223 [3] 50 ?_
      refine And.intro (fun _ => ?_) (fun h_9 => absurd ((by rw [hs]; exact nI_le (Nat.le_refl _) (by omega))) h_9)
      rw [amB_f hm]
      exact ⟨rfl, rfl, rfl, rfl⟩
    · intro hm
      refine ab_sound ok_223 [3] 50 ?_
      refine And.intro (fun h_9 => absurd h_9 ((by rw [hs]; exact nI_ge hk (by omega)))) (fun _ => ?_)
      (refine Exists.intro 0 ?_; refine ⟨0, _, Nat.zero_le _, Nat.zero_le _, c_Mod_isLike_116_118 _ _ p a (b + 60 * k) L M _ _ rfl (by rw [pk_mul, nI_add]) hp ha (by omega) hL hM hs2 rfl rfl rfl, ?_⟩; refine ab_q1_elim ?_)
      cases hc : lkB p (fun i => g (a + i)) (fun i => h (b + 60 * k + i))
      · refine And.intro (fun _ => ?_) (fun h_9 => absurd (rfl) h_9)
        refine ab_ev_of (ih (fun m hm2 => ?_)) (by rw [nI_s k]; rfl) rfl rfl
        by_cases e : m = k
        · rw [e]; exact hc
        · exact hm m (by omega)
      · refine And.intro (fun h_9 => absurd h_9 ((by decide))) (fun _ => ?_)
        rw [show amB N p (fun i => g (a + i)) (rowsOf h b) = true from decide_eq_true ⟨k, hk, hc⟩]
        exact ⟨rfl, rfl, rfl, rfl⟩
  exact loop 0 (by omega) (fun m hm => by omega)
theorem c_Mod_isAmong_118_116 (x z : Int32) (N p a b L M : Nat) (w : ab_W) (n : Nat) {s : Nat → Int32} {wd tn : Int64} {g h : Nat → Int64} (hx : x = nI a) (hz : z = nI b) (hN : N ≤ 60) (hp : p ≤ 58) (ha : a + p ≤ L) (hb : b + 3600 ≤ M) (hL : L ≤ 30000) (hM : M ≤ 30000) (hs : s 38 = nI N) (hs2 : s 39 = nI p) (h0 : w 90 = oMod s wd tn) (h3 : w 118 = aJ L g) (h4 : w 116 = aJ M h) : ab_C X l i_Mod_isAmong [.ref 90, .ref 118, .int x, .ref 116, .int z] w n 0 0 (ab_q1 (some (.int (b01 (amB N p (fun i => g (a + i)) (rowsOf h b))))) w n) := by
  subst hx hz
  obtain ⟨w, rfl⟩ := va_ex3 h4 h3 h0
  refine ab_metI cd_223 om_223 rfl (ab_sound ok_223 [3] 50 ?_)
  have loop : ∀ k, k ≤ N → (∀ m, m < k → lkB p (fun i => g (a + i)) (rowsOf h b m) = false) → ab_Ev X l i_Mod_isAmong 3 [some (.ref 90), some (.ref 118), some (.int (nI a)), some (.ref 116), some (.int (nI b)), some (.int (nI k))] [] (va_up (va_up (va_up w 90 (oMod s wd tn)) 118 (aJ L g)) 116 (aJ M h)) n 0 0 (ab_q1 (some (.int (b01 (amB N p (fun i => g (a + i)) (rowsOf h b))))) (va_up (va_up (va_up w 90 (oMod s wd tn)) 118 (aJ L g)) 116 (aJ M h)) n) := by
    refine ab_up N ?_ (fun k hk ih => ?_)
    · intro hm
      refine ab_sound ok_223 [3] 50 ?_
      refine And.intro (fun _ => ?_) (fun h_9 => absurd ((by rw [hs]; exact nI_le (Nat.le_refl _) (by omega))) h_9)
      rw [amB_f hm]
      exact ⟨rfl, rfl, rfl, rfl⟩
    · intro hm
      refine ab_sound ok_223 [3] 50 ?_
      refine And.intro (fun h_9 => absurd h_9 ((by rw [hs]; exact nI_ge hk (by omega)))) (fun _ => ?_)
      (refine Exists.intro 0 ?_; refine ⟨0, _, Nat.zero_le _, Nat.zero_le _, c_Mod_isLike_118_116 _ _ p a (b + 60 * k) L M _ _ rfl (by rw [pk_mul, nI_add]) hp ha (by omega) hL hM hs2 rfl rfl rfl, ?_⟩; refine ab_q1_elim ?_)
      cases hc : lkB p (fun i => g (a + i)) (fun i => h (b + 60 * k + i))
      · refine And.intro (fun _ => ?_) (fun h_9 => absurd (rfl) h_9)
        refine ab_ev_of (ih (fun m hm2 => ?_)) (by rw [nI_s k]; rfl) rfl rfl
        by_cases e : m = k
        · rw [e]; exact hc
        · exact hm m (by omega)
      · refine And.intro (fun h_9 => absurd h_9 ((by decide))) (fun _ => ?_)
        rw [show amB N p (fun i => g (a + i)) (rowsOf h b) = true from decide_eq_true ⟨k, hk, hc⟩]
        exact ⟨rfl, rfl, rfl, rfl⟩
  exact loop 0 (by omega) (fun m hm => by omega)
theorem lk_sym (p : Nat) (r t : Nat → Int64) : lkB p r t = lkB p t r := by
  unfold lkB
  apply decide_eq_decide.mpr
  exact ⟨fun q i hi => (q i hi).symm, fun q i hi => (q i hi).symm⟩
theorem k_Mod_shared (x y : Int32) (u v : Nat) (w : ab_W) (n : Nat) {s : Nat → Int32} {wd tn : Int64} {N : Nat → Nat} {R : Nat → Nat → Nat → Int64} (hx : x = nI u) (hy : y = nI v) (hu : u < 8) (hv : v < 8) (hN0 : N u ≠ 0) (hNv : N v = N u) (h : MB w s wd tn N R) :
    ab_C X l i_Mod_shared [.ref 90, .int x, .int y] w n 0 0 (qI (nI (shV (N u) (R u) (R v))) (mQ w n s wd tn (nI 0) N R)) := by
  subst hx hy
  have hB0 := h.set0 (nI 0)
  obtain ⟨h0, -⟩ := h
  obtain ⟨w9, rfl⟩ := va_ex h0
  refine ab_mqI cd_229 om_229 rfl (ab_sound ok_229 [44] 80 ?_)
  (refine Exists.intro 0 ?_; refine ⟨0, _, Nat.zero_le _, Nat.zero_le _, k_has_y _ u _ _ rfl hu hN0 hB0.1 hB0.2.1 hB0.2.2.1, ?_⟩; rintro _ w1 _ ⟨rfl, rfl, e1, s1, e2, e3, e4⟩)
  have hB1 := hB0.laid e1 e2 e4
  obtain ⟨w1, rfl⟩ := va_ex e2
  refine And.intro (fun h_9 => absurd h_9 ((by decide))) (fun _ => ?_)
  (refine Exists.intro 0 ?_; refine ⟨0, _, Nat.zero_le _, Nat.zero_le _, k_has_y _ v _ _ rfl hv (by omega) hB1.1 hB1.2.1 hB1.2.2.1, ?_⟩; rintro _ w2 _ ⟨rfl, rfl, d1, s2, d2, d3, d4⟩)
  have hB2 := hB1.laid d1 d2 d4
  obtain ⟨pt, p1, p2⟩ := hB2.2.2.1.pts
  obtain ⟨G, G1, G2⟩ := hB2.2.2.1.rows
  have hM0 := d4.1
  have fin : mQ (va_up w9 90 (oMod s wd tn)) n s wd tn (nI 0) N R w2 n := ⟨rfl, ((Fr.refl.up (by omega)).trans (e1.mono (fun k hk => by omega))).trans (d1.mono (fun k hk => by omega)), s2, ((Fr.refl.us (by omega)).trans (e3.mono (fun k hk => by omega))).trans (d3.mono (fun k hk => by omega)), d3.get (e3.get rfl (by omega)) (by omega), hB2⟩
  obtain ⟨w2, rfl⟩ := va_ex3 d2 p1 G1
  refine And.intro (fun h_9 => absurd h_9 ((by decide))) (fun _ => ?_)
  refine And.intro (vp_in_nI hu (by omega)) ?_
  refine And.intro (vp_in_nI hv (by omega)) ?_
  rw [nI_clamp (by omega), nI_clamp (by omega), p2 u hu, p2 v hv, hNv]
  refine And.intro (fun _ => ?_) (fun h_9 => absurd (rfl) h_9)
  rw [hNv] at d4
  have hRu := G2 u hu
  have hRv := G2 v hv
  rw [hNv] at hRv
  generalize hMe : N u = M at *
  obtain ⟨hM, ⟨c1, c2⟩, -⟩ := id d4
  have hp := phi_le M hM.2
  have loop : ∀ k, k ≤ M → ab_Ev X l i_Mod_shared 44 [some (.ref 90), some (.int (nI u)), some (.int (nI v)), some (.int (nI (cnt (fun k => fresh (phi M) (R u) k && decide (∃ j, j < M ∧ lkB (phi M) (R v j) (R u k) = true)) k))), some (.int (nI k))] [] (va_up (va_up (va_up w2 116 (aJ 28800 G)) 115 (aI 8 pt)) 90 (oMod s2 wd tn)) n 0 0 (qI (nI (shV M (R u) (R v))) (mQ (va_up w9 90 (oMod s wd tn)) n s wd tn (nI 0) N R)) := by
    refine ab_up M ?_ (fun k hk ih => ?_)
    · refine ab_sound ok_229 [44] 80 ?_
      refine And.intro (fun _ => ?_) (fun h_9 => absurd ((by rw [c1]; exact nI_le (Nat.le_refl _) (by omega))) h_9)
      exact ⟨rfl, fin⟩
    · obtain ⟨f1, f2⟩ := fst_k (phi M) (rowsOf G (3600 * u)) k
      rw [fresh_congr hRu hk] at f1
      refine ab_sound ok_229 [44, 102] 80 ?_
      refine And.intro (fun h_9 => absurd h_9 ((by rw [c1]; exact nI_ge hk (by omega)))) (fun _ => ?_)
      (refine Exists.intro 0 ?_; refine ⟨0, _, Nat.zero_le _, Nat.zero_le _, c_Mod_firstLike_116 _ _ (phi M) (3600 * u) k 28800 _ _ (pk_mul 3600 u) rfl (by omega) hp (by omega) (by omega) c2 rfl rfl, ?_⟩; refine ab_q1_elim ?_)
      have hu9 : cnt (fun k => fresh (phi M) (R u) k && decide (∃ j, j < M ∧ lkB (phi M) (R v j) (R u k) = true)) (k + 1) = cnt (fun k => fresh (phi M) (R u) k && decide (∃ j, j < M ∧ lkB (phi M) (R v j) (R u k) = true)) k + (if (fresh (phi M) (R u) k && decide (∃ j, j < M ∧ lkB (phi M) (R v j) (R u k) = true)) = true then 1 else 0) := rfl
      rw [hu9] at ih
      have fin : ∀ c : Nat, nI (cnt (fun k => fresh (phi M) (R u) k && decide (∃ j, j < M ∧ lkB (phi M) (R v j) (R u k) = true)) k + (if (fresh (phi M) (R u) k && decide (∃ j, j < M ∧ lkB (phi M) (R v j) (R u k) = true)) = true then 1 else 0)) = nI c → ab_Ev X l i_Mod_shared 102 [some (.ref 90), some (.int (nI u)), some (.int (nI v)), some (.int (nI c)), some (.int (nI k))] [] (va_up (va_up (va_up w2 116 (aJ 28800 G)) 115 (aI 8 pt)) 90 (oMod s2 wd tn)) n 0 0 (qI (nI (shV M (R u) (R v))) (mQ (va_up w9 90 (oMod s wd tn)) n s wd tn (nI 0) N R)) := by
        intro c hc
        refine ab_sound ok_229 [44] 80 ?_
        exact ab_ev_of ih (by rw [nI_s k, hc]; rfl) rfl rfl
      generalize hv9 : fst (fun i => lkB (phi M) (rowsOf G (3600 * u) i) (rowsOf G (3600 * u) k)) k 0 = q at *
      by_cases hc : fresh (phi M) (R u) k = true
      · refine And.intro (fun h_9 => absurd ((by rw [f1.mpr hc])) h_9) (fun _ => ?_)
        (refine Exists.intro 0 ?_; refine ⟨0, _, Nat.zero_le _, Nat.zero_le _, c_Mod_at _ _ u k _ _ rfl rfl, ?_⟩; refine ab_q1_elim ?_)
        (refine Exists.intro 0 ?_; refine ⟨0, _, Nat.zero_le _, Nat.zero_le _, c_Mod_isAmong_116 _ _ M (phi M) (3600 * u + 60 * k) (3600 * v) _ _ rfl (pk_mul 3600 v) hM.2 hp (by omega) (by omega) c1 c2 rfl rfl, ?_⟩; refine ab_q1_elim ?_)
        have hq : amB M (phi M) (fun i => G (3600 * u + 60 * k + i)) (rowsOf G (3600 * v)) = decide (∃ j, j < M ∧ lkB (phi M) (R v j) (R u k) = true) := by
          unfold amB
          apply decide_eq_decide.mpr
          have key : ∀ j, j < M → lkB (phi M) (fun i => G (3600 * u + 60 * k + i)) (rowsOf G (3600 * v) j) = lkB (phi M) (R v j) (R u k) := fun j hj => by
            rw [lk_sym]
            exact lk_congr2 (R := rowsOf G (3600 * v)) (R2 := rowsOf G (3600 * u)) hRv hRu hj hk
          exact ⟨fun ⟨j, hj, q⟩ => ⟨j, hj, by rw [← key j hj]; exact q⟩, fun ⟨j, hj, q⟩ => ⟨j, hj, by rw [key j hj]; exact q⟩⟩
        rw [hq]
        rw [hc, Bool.true_and] at fin
        cases hd : decide (∃ j, j < M ∧ lkB (phi M) (R v j) (R u k) = true)
        · refine And.intro (fun _ => ?_) (fun h_9 => absurd (rfl) h_9)
          refine fin _ ?_
          rw [hd, if_neg (by decide), Nat.add_zero]
        · refine And.intro (fun h_9 => absurd h_9 ((by decide))) (fun _ => ?_)
          refine ab_ev_of (fin (cnt (fun k => fresh (phi M) (R u) k && decide (∃ j, j < M ∧ lkB (phi M) (R v j) (R u k) = true)) k + 1) ?_) (by rw [nI_s (cnt _ k)]; rfl) rfl rfl
          rw [hd, if_pos rfl]
      · refine And.intro (fun _ => ?_) (fun h_9 => absurd h_9 ((fun q => hc (f1.mp ((nI_eq (by omega) (by omega)).mp q)))))
        refine fin _ ?_
        rw [if_neg, Nat.add_zero]
        rw [Bool.not_eq_true] at hc
        rw [hc, Bool.false_and]
        exact Bool.false_ne_true
  exact loop 0 (by omega)
theorem k_Mod_shared_n (x y : Int32) (w : ab_W) (n : Nat) {s : Nat → Int32} {wd tn : Int64} {N : Nat → Nat} {R : Nat → Nat → Nat → Int64} (h : MB w s wd tn N R) (hb : badS N x ∨ badS N y ∨ ∃ u v, u < 8 ∧ v < 8 ∧ x = nI u ∧ y = nI v ∧ N u ≠ 0 ∧ N v ≠ 0 ∧ N u ≠ N v) :
    ab_C X l i_Mod_shared [.ref 90, .int x, .int y] w n 0 0 (qI (-nI 2) (mQ w n s wd tn (nI 0) N R)) := by
  have hB0 := h.set0 (nI 0)
  obtain ⟨h0, -⟩ := h
  obtain ⟨w9, rfl⟩ := va_ex h0
  refine ab_mqI cd_229 om_229 rfl (ab_sound ok_229 [44] 80 ?_)
  rcases sh_or N x with ⟨u, hu, hy, hNu⟩ | hy
  · (refine Exists.intro 0 ?_; refine ⟨0, _, Nat.zero_le _, Nat.zero_le _, k_has_y _ u _ _ hy hu hNu hB0.1 hB0.2.1 hB0.2.2.1, ?_⟩; rintro _ w1 _ ⟨rfl, rfl, e1, s1, e2, e3, e4⟩)
    have hB1 := hB0.laid e1 e2 e4
    obtain ⟨w1, rfl⟩ := va_ex e2
    refine And.intro (fun h_9 => absurd h_9 ((by decide))) (fun _ => ?_)
    rcases sh_or N y with ⟨v, hv, hz, hNv⟩ | hz
    · (refine Exists.intro 0 ?_; refine ⟨0, _, Nat.zero_le _, Nat.zero_le _, k_has_y _ v _ _ hz hv hNv hB1.1 hB1.2.1 hB1.2.2.1, ?_⟩; rintro _ w2 _ ⟨rfl, rfl, d1, s2, d2, d3, d4⟩)
      have hB2 := hB1.laid d1 d2 d4
      obtain ⟨pt, p1, p2⟩ := hB2.2.2.1.pts
      obtain ⟨w2, rfl⟩ := va_ex2 d2 p1
      have hM1 := e4.1
      have hM2 := d4.1
      refine And.intro (fun h_9 => absurd h_9 ((by decide))) (fun _ => ?_)
      subst hy hz
      refine And.intro (vp_in_nI hu (by omega)) ?_
      refine And.intro (vp_in_nI hv (by omega)) ?_
      rw [nI_clamp (by omega), nI_clamp (by omega), p2 u hu, p2 v hv]
      have hne : N u ≠ N v := by
        rcases hb with h1 | h1 | ⟨u', v', a1, a2, a3, a4, a5, a6, a7⟩
        · rcases h1 with h1 | ⟨t', b1, b2, b3⟩
          · exact absurd rfl (n_out (by omega) hu h1)
          · have := (nI_eq (by omega) (by omega)).mp b2
            subst this
            exact absurd b3 hNu
        · rcases h1 with h1 | ⟨t', b1, b2, b3⟩
          · exact absurd rfl (n_out (by omega) hv h1)
          · have := (nI_eq (by omega) (by omega)).mp b2
            subst this
            exact absurd b3 hNv
        · have q1 := (nI_eq (by omega) (by omega)).mp a3
          have q2 := (nI_eq (by omega) (by omega)).mp a4
          subst q1 q2
          exact a7
      refine And.intro (fun h_9 => absurd h_9 ((fun q => hne ((nI_eq (by omega) (by omega)).mp q)))) (fun _ => ?_)
      exact ⟨rfl, rfl, ((Fr.refl.up (by omega)).trans (e1.mono (fun k hk => by omega))).trans (d1.mono (fun k hk => by omega)), s2, ((Fr.refl.us (by omega)).trans (e3.mono (fun k hk => by omega))).trans (d3.mono (fun k hk => by omega)), d3.get (e3.get rfl (by omega)) (by omega), hB2⟩
    · (refine Exists.intro 0 ?_; refine ⟨0, _, Nat.zero_le _, Nat.zero_le _, k_has_n _ _ _ hz e2 hB1.2.2.1, ?_⟩; refine ab_q1_elim ?_)
      refine And.intro (fun _ => ?_) (fun h_9 => absurd (rfl) h_9)
      exact ⟨rfl, rfl, (Fr.refl.up (by omega)).trans (e1.mono (fun k hk => by omega)), s1, (Fr.refl.us (by omega)).trans (e3.mono (fun k hk => by omega)), e3.get rfl (by omega), hB1⟩
  · (refine Exists.intro 0 ?_; refine ⟨0, _, Nat.zero_le _, Nat.zero_le _, k_has_n _ _ _ hy hB0.1 hB0.2.2.1, ?_⟩; refine ab_q1_elim ?_)
    refine And.intro (fun _ => ?_) (fun h_9 => absurd (rfl) h_9)
    exact ⟨rfl, rfl, Fr.refl.up (by omega), upd s 0 (nI 0), Fr.refl.us (by omega), rfl, hB0⟩
end MAPI4
