theorem amB_congr {N p : Nat} {r r2 : Nat → Int64} {S S2 : Nat → Nat → Int64} (h : Lk p r r2) (h2 : ∀ k, k < N → Lk p (S k) (S2 k)) : amB N p r S = amB N p r2 S2 := by
  unfold amB
  apply decide_eq_decide.mpr
  refine ⟨fun ⟨k, hk, q⟩ => ⟨k, hk, ?_⟩, fun ⟨k, hk, q⟩ => ⟨k, hk, ?_⟩⟩
  · rw [lkB_iff] at q ⊢
    exact h.symm.trans (q.trans (h2 k hk))
  · rw [lkB_iff] at q ⊢
    exact h.trans (q.trans (h2 k hk).symm)
theorem row0 (g : Nat → Int64) (k : Nat) : (fun i => g (60 * k + i)) = rowsOf g 0 k := by
  funext i
  unfold rowsOf
  rw [Nat.zero_add]
theorem rm_lk {M : Nat} {g : Nat → Int64} {V : Nat → Nat → Int64} (h : Rm M g V) {k : Nat} (hk : k < M) : Lk (phi M) (rowsOf g 0 k) (V k) := fun i hi => by
  rw [← row0]
  exact h k i hk hi
theorem smr_lk {M : Nat} {S V : Nat → Nat → Int64} (h : SmR M S V) {k : Nat} (hk : k < M) : Lk (phi M) (S k) (V k) := fun i hi => h k i hk hi
theorem lkB_c {p : Nat} {a b c d : Nat → Int64} (h : Lk p a b) (h2 : Lk p c d) : lkB p a c = lkB p b d := by
  rw [Bool.eq_iff_iff, lkB_iff, lkB_iff]
  exact ⟨fun q => h.symm.trans (q.trans h2), fun q => h.trans (q.trans h2.symm)⟩
theorem conv_same {M : Nat} (hM : 3 ≤ M ∧ M ≤ 60) {G g : Nat → Int64} {b u : Nat} {R : Nat → Nat → Int64} {mir : Bool} (hu : u < M) (hG : SmR M (rowsOf G b) R) (hg : Rm M g (fun k => tm M mir u (R k))) :
    (alB (fun k => amB M (phi M) (rowsOf g 0 k) (rowsOf G b)) M && alB (fun k => amB M (phi M) (rowsOf G b k) (rowsOf g 0)) M) = inB M R mir u := by
  rw [← in_both hM.2 hM.1 hu]
  rw [alB_congr (fun k hk => amB_congr (rm_lk hg hk) (fun j hj => smr_lk hG hj)), alB_congr (Q := fun k => amB M (phi M) (R k) (fun j => tm M mir u (R j))) (fun k hk => amB_congr (smr_lk hG hk) (fun j hj => rm_lk hg hj))]
theorem conv_bg {M : Nat} {G g : Nat → Int64} {b u m : Nat} {S R : Nat → Nat → Int64} {mir : Bool} (hM : 0 < M) (hG : SmR M (rowsOf G b) S) (hg : Rm M g (fun k => tm M mir u (R k))) :
    alB (fun k => lkB (phi M) (rowsOf G b k) (rowsOf g 0 ((k + m) % M))) M = bgB M S R mir u m := by
  unfold bgB
  exact alB_congr (fun k hk => lkB_c (smr_lk hG hk) (rm_lk hg (Nat.mod_lt _ hM)))
theorem nI_nn {a : Nat} (h : a < 2 ^ 31) : nI a ≠ -nI 1 := fun z => by
  have h1 := congrArg Int32.toInt z
  rw [nI_toInt h] at h1
  have : (-nI 1).toInt = -1 := by decide
  omega
theorem fst1 {P : Nat → Bool} {M m : Nat} (h1 : 1 ≤ m) (hm : m ≤ M) (h : P m = true) (h2 : ∀ j, 1 ≤ j → j < m → P j = false) : fst P (M - 1) 1 = m := by
  obtain ⟨a, b, c, d⟩ := fst_spec P (M - 1) 1
  rcases Nat.lt_trichotomy (fst P (M - 1) 1) m with e | e | e
  · have := d (by omega)
    rw [h2 _ b e] at this
    cases this
  · exact e
  · have := a m h1 e
    rw [h] at this
    cases this
theorem bg_round {M : Nat} (hM : 3 ≤ M) (R : Nat → Nat → Int64) (m : Nat) : bgB M R R false 0 m = roundB (phi M) R M m := by
  unfold bgB roundB alB
  apply decide_eq_decide.mpr
  have e : ∀ k, lkB (phi M) (R k) (tm M false 0 (R ((k + m) % M))) = lkB (phi M) (R k) (R ((k + m) % M)) := fun k => lkB_c Lk.refl (fun i hi => tv_0 _ hi)
  exact ⟨fun q k hk => (e k).symm.trans (q k hk), fun q k hk => (e k).trans (q k hk)⟩
theorem round_M {M : Nat} (R : Nat → Nat → Int64) : roundB (phi M) R M M = true := decide_eq_true (fun k hk => by
  rw [Nat.add_mod_right, Nat.mod_eq_of_lt hk]
  exact lkB_iff.mpr Lk.refl)
abbrev FT (k : Nat) : Prop := k = 114 ∨ k = 118
section MORB
variable {X : ab_X} {l : Launch}
theorem k_turnAll (x y z : Int32) (t u M : Nat) (mir : Bool) (w : ab_W) (n : Nat) {s : Nat → Int32} {wd tn : Int64} {ph : Nat → Int32} {G f g : Nat → Int64} {r : Nat → Nat → Int64} (hx : x = nI t) (hy : y = nI u) (hz : z = b01 mir) (ht : t < 8) (hu : u < M) (hM : 3 ≤ M ∧ M ≤ 60) (h90 : w 90 = oMod s wd tn) (c1 : s 38 = nI M) (c2 : s 39 = nI (phi M)) (c5 : w 113 = aI 3600 ph) (c6 : PowIs M ph) (h114 : w 114 = aJ 60 f) (h116 : w 116 = aJ 28800 G) (h118 : w 118 = aJ 3600 g) (hr : SmR M (rowsOf G (3600 * t)) r) :
    ab_C X l i_Mod_turnAll [.ref 90, .int x, .int y, .int z, .ref 118] w n 0 0 (qV fun w' n' => n = n' ∧ Fr FT w w' ∧ (∃ f, w' 114 = aJ 60 f) ∧ ∃ g, w' 118 = aJ 3600 g ∧ Rm M g (fun k => tm M mir u (r k))) := by
  subst hx hy hz
  refine ab_mqV cd_221 om_221 rfl rfl (ab_sound ok_221 [3] 50 ?_)
  have loop : ∀ k, k ≤ M → ∀ w3, Fr FT w w3 → ∀ f, w3 114 = aJ 60 f → ∀ g, w3 118 = aJ 3600 g → (∀ j i, j < k → i < phi M → g (60 * j + i) = tm M mir u (r j) i) → ab_Ev X l i_Mod_turnAll 3 [some (.ref 90), some (.int (nI t)), some (.int (nI u)), some (.int (b01 mir)), some (.ref 118), some (.int (nI k))] [] w3 n 0 0 (qV fun w' n' => n = n' ∧ Fr FT w w' ∧ (∃ f, w' 114 = aJ 60 f) ∧ ∃ g, w' 118 = aJ 3600 g ∧ Rm M g (fun k => tm M mir u (r k))) := by
    refine ab_up M ?_ (fun k hk ih => ?_)
    · intro w3 hf f hf4 g hg hr3
      have k90 : w3 90 = oMod s wd tn := hf.get h90 (by omega)
      obtain ⟨w3, rfl⟩ := va_ex k90
      refine ab_sound ok_221 [3] 50 ?_
      refine And.intro (fun _ => ?_) (fun h_9 => absurd ((by rw [c1]; exact nI_le (Nat.le_refl _) (by omega))) h_9)
      exact ⟨rfl, rfl, hf, ⟨f, hf4⟩, g, hg, hr3⟩
    · intro w3 hf f hf4 g hg hr3
      have k90 : w3 90 = oMod s wd tn := hf.get h90 (by omega)
      have k116 : w3 116 = aJ 28800 G := hf.get h116 (by omega)
      have k113 : w3 113 = aI 3600 ph := hf.get c5 (by omega)
      obtain ⟨w3, rfl⟩ := va_ex k90
      refine ab_sound ok_221 [3] 80 ?_
      refine And.intro (fun h_9 => absurd h_9 ((by rw [c1]; exact nI_ge hk (by omega)))) (fun _ => ?_)
      (refine Exists.intro 0 ?_; refine ⟨0, _, Nat.zero_le _, Nat.zero_le _, c_Mod_clear _ _ rfl hf4, ?_⟩; refine ab_q1_elim ?_)
      (refine Exists.intro 0 ?_; refine ⟨0, _, Nat.zero_le _, Nat.zero_le _, c_Mod_at _ _ t k _ _ rfl rfl, ?_⟩; refine ab_q1_elim ?_)
      (refine Exists.intro 0 ?_; refine ⟨0, _, Nat.zero_le _, Nat.zero_le _, c_Mod_gather_116 _ _ _ _ M (3600 * t + 60 * k) 28800 u _ _ mir rfl rfl rfl hM.2 hM.1 hu (by omega) (by omega) c1 c2 rfl va_us k116, ?_⟩; refine ab_q1_elim ?_)
      (refine Exists.intro 0 ?_; refine ⟨0, _, Nat.zero_le _, Nat.zero_le _, c_Mod_write_118 _ M (60 * k) 3600 _ _ (pk_mul 60 k) hM.2 hM.1 (by omega) (by omega) c1 c2 rfl k113 c6 va_us hg, ?_⟩; refine ab_q1_elim ?_)
      refine ab_ev_of (ih _ (((hf.up (by omega)).up (by omega)).up (by omega)) _ ((va_un (by omega)).trans va_us) _ va_us (wr_rows hM hr3 ?_)) (by rw [nI_s k]; rfl) rfl rfl
      intro i hi
      have e1 := e60_red hM.2 (e60_ga (ix := fun i => if mir = true then (u + M - i) % M else (u + i) % M) (v := fun i => lN 1 * G (3600 * t + 60 * k + i)) (ix2 := fun i => if mir = true then (u + M - i) % M else (u + i) % M) (v2 := r k) (e60_zb f) (phi M) (fun j hj => ⟨by show (if mir = true then (u + M - j) % M else (u + j) % M) < 60; split <;> exact Nat.lt_of_lt_of_le (Nat.mod_lt _ (by omega)) hM.2, rfl, by
        have := hr k j hk hj
        unfold rowsOf at this
        show lN 1 * G (3600 * t + 60 * k + j) = _
        rw [this, show lN 1 = 1 from rfl, Int64.one_mul]⟩)) i
      refine e1.trans ?_
      cases mir with
      | true => rfl
      | false => exact tv_red hM.2 hM.1 u (r k) i
  exact ab_ev_of (loop 0 (by omega) w Fr.refl f h114 g h118 (fun j i hj => by omega)) rfl rfl rfl
theorem k_isSameSet (x : Int32) (t M : Nat) (w : ab_W) (n : Nat) {s : Nat → Int32} {wd tn : Int64} {G g : Nat → Int64} (hx : x = nI t) (ht : t < 8) (hM : 3 ≤ M ∧ M ≤ 60) (h90 : w 90 = oMod s wd tn) (c1 : s 38 = nI M) (c2 : s 39 = nI (phi M)) (h116 : w 116 = aJ 28800 G) (h118 : w 118 = aJ 3600 g) :
    ab_C X l i_Mod_isSameSet [.ref 90, .ref 118, .int x] w n 0 0 (ab_q1 (some (.int (b01 (alB (fun k => amB M (phi M) (rowsOf g 0 k) (rowsOf G (3600 * t))) M && alB (fun k => amB M (phi M) (rowsOf G (3600 * t) k) (rowsOf g 0)) M)))) w n) := by
  subst hx
  have hp := phi_le M hM.2
  obtain ⟨w, rfl⟩ := va_ex3 h90 h116 h118
  refine ab_metI cd_222 om_222 rfl (ab_sound ok_222 [2] 50 ?_)
  generalize hA : alB (fun k => amB M (phi M) (rowsOf g 0 k) (rowsOf G (3600 * t))) M = A
  generalize hB : alB (fun k => amB M (phi M) (rowsOf G (3600 * t) k) (rowsOf g 0)) M = B
  have snd : A = true → ∀ k, k ≤ M → (∀ j, j < k → amB M (phi M) (rowsOf G (3600 * t) j) (rowsOf g 0) = true) → ab_Ev X l i_Mod_isSameSet 41 [some (.ref 90), some (.ref 118), some (.int (nI t)), some (.int (nI k))] [] (va_up (va_up (va_up w 118 (aJ 3600 g)) 116 (aJ 28800 G)) 90 (oMod s wd tn)) n 0 0 (ab_q1 (some (.int (b01 (A && B)))) (va_up (va_up (va_up w 118 (aJ 3600 g)) 116 (aJ 28800 G)) 90 (oMod s wd tn)) n) := by
    intro hAt
    rw [hAt, Bool.true_and]
    refine ab_up M ?_ (fun k hk ih => ?_)
    · intro hm
      refine ab_sound ok_222 [41] 50 ?_
      refine And.intro (fun _ => ?_) (fun h_9 => absurd ((by rw [c1]; exact nI_le (Nat.le_refl _) (by omega))) h_9)
      rw [← hB, alB_t hm]
      exact ⟨rfl, rfl, rfl, rfl⟩
    · intro hm
      refine ab_sound ok_222 [41] 50 ?_
      refine And.intro (fun h_9 => absurd h_9 ((by rw [c1]; exact nI_ge hk (by omega)))) (fun _ => ?_)
      (refine Exists.intro 0 ?_; refine ⟨0, _, Nat.zero_le _, Nat.zero_le _, c_Mod_at _ _ t k _ _ rfl rfl, ?_⟩; refine ab_q1_elim ?_)
      (refine Exists.intro 0 ?_; refine ⟨0, _, Nat.zero_le _, Nat.zero_le _, c_Mod_isAmong_116_118 _ _ M (phi M) (3600 * t + 60 * k) 0 28800 3600 _ _ rfl rfl hM.2 hp (by omega) (by omega) (by omega) (by omega) c1 c2 rfl rfl rfl, ?_⟩; refine ab_q1_elim ?_)
      have e : amB M (phi M) (fun i => G (3600 * t + 60 * k + i)) (rowsOf g 0) = amB M (phi M) (rowsOf G (3600 * t) k) (rowsOf g 0) := rfl
      rw [e]
      cases hc : amB M (phi M) (rowsOf G (3600 * t) k) (rowsOf g 0)
      · refine And.intro (fun h_9 => absurd (rfl) h_9) (fun _ => ?_)
        rw [← hB, alB_f (P := fun k => amB M (phi M) (rowsOf G (3600 * t) k) (rowsOf g 0)) hk hc]
        exact ⟨rfl, rfl, rfl, rfl⟩
      · refine And.intro (fun _ => ?_) (fun h_9 => absurd h_9 ((by decide)))
        exact ab_ev_of (ih (all_s (P := fun k => amB M (phi M) (rowsOf G (3600 * t) k) (rowsOf g 0)) hm hc)) (by rw [nI_s k]; rfl) rfl rfl
  have loop : ∀ k, k ≤ M → (∀ j, j < k → amB M (phi M) (rowsOf g 0 j) (rowsOf G (3600 * t)) = true) → ab_Ev X l i_Mod_isSameSet 2 [some (.ref 90), some (.ref 118), some (.int (nI t)), some (.int (nI k))] [] (va_up (va_up (va_up w 118 (aJ 3600 g)) 116 (aJ 28800 G)) 90 (oMod s wd tn)) n 0 0 (ab_q1 (some (.int (b01 (A && B)))) (va_up (va_up (va_up w 118 (aJ 3600 g)) 116 (aJ 28800 G)) 90 (oMod s wd tn)) n) := by
    refine ab_up M ?_ (fun k hk ih => ?_)
    · intro hm
      refine ab_sound ok_222 [2, 41] 50 ?_
      refine And.intro (fun _ => ?_) (fun h_9 => absurd ((by rw [c1]; exact nI_le (Nat.le_refl _) (by omega))) h_9)
      exact snd (by rw [← hA, alB_t hm]) 0 (by omega) (fun j hj => by omega)
    · intro hm
      refine ab_sound ok_222 [2, 41] 50 ?_
      refine And.intro (fun h_9 => absurd h_9 ((by rw [c1]; exact nI_ge hk (by omega)))) (fun _ => ?_)
      (refine Exists.intro 0 ?_; refine ⟨0, _, Nat.zero_le _, Nat.zero_le _, c_Mod_isAmong_118_116 _ _ M (phi M) (60 * k) (3600 * t) 3600 28800 _ _ (pk_mul 60 k) (pk_mul 3600 t) hM.2 hp (by omega) (by omega) (by omega) (by omega) c1 c2 rfl rfl rfl, ?_⟩; refine ab_q1_elim ?_)
      rw [row0 g k]
      cases hc : amB M (phi M) (rowsOf g 0 k) (rowsOf G (3600 * t))
      · refine And.intro (fun h_9 => absurd (rfl) h_9) (fun _ => ?_)
        rw [← hA, alB_f (P := fun k => amB M (phi M) (rowsOf g 0 k) (rowsOf G (3600 * t))) hk hc]
        exact ⟨rfl, rfl, rfl, rfl⟩
      · refine And.intro (fun _ => ?_) (fun h_9 => absurd h_9 ((by decide)))
        exact ab_ev_of (ih (all_s (P := fun k => amB M (phi M) (rowsOf g 0 k) (rowsOf G (3600 * t))) hm hc)) (by rw [nI_s k]; rfl) rfl rfl
  exact loop 0 (by omega) (fun j hj => by omega)
theorem k_begins (x y : Int32) (t m M : Nat) (w : ab_W) (n : Nat) {s : Nat → Int32} {wd tn : Int64} {G g : Nat → Int64} (hx : x = nI t) (hy : y = nI m) (ht : t < 8) (hm : m ≤ 60) (hM : 3 ≤ M ∧ M ≤ 60) (h90 : w 90 = oMod s wd tn) (c1 : s 38 = nI M) (c2 : s 39 = nI (phi M)) (h116 : w 116 = aJ 28800 G) (h118 : w 118 = aJ 3600 g) :
    ab_C X l i_Mod_begins [.ref 90, .int x, .ref 118, .int y] w n 0 0 (ab_q1 (some (.int (b01 (alB (fun k => lkB (phi M) (rowsOf G (3600 * t) k) (rowsOf g 0 ((k + m) % M))) M)))) w n) := by
  subst hx hy
  have hp := phi_le M hM.2
  obtain ⟨w, rfl⟩ := va_ex3 h90 h116 h118
  refine ab_metI cd_226 om_226 rfl (ab_sound ok_226 [3] 50 ?_)
  have loop : ∀ k, k ≤ M → (∀ j, j < k → lkB (phi M) (rowsOf G (3600 * t) j) (rowsOf g 0 ((j + m) % M)) = true) → ab_Ev X l i_Mod_begins 3 [some (.ref 90), some (.int (nI t)), some (.ref 118), some (.int (nI m)), some (.int (nI k))] [] (va_up (va_up (va_up w 118 (aJ 3600 g)) 116 (aJ 28800 G)) 90 (oMod s wd tn)) n 0 0 (ab_q1 (some (.int (b01 (alB (fun k => lkB (phi M) (rowsOf G (3600 * t) k) (rowsOf g 0 ((k + m) % M))) M)))) (va_up (va_up (va_up w 118 (aJ 3600 g)) 116 (aJ 28800 G)) 90 (oMod s wd tn)) n) := by
    refine ab_up M ?_ (fun k hk ih => ?_)
    · intro hj
      refine ab_sound ok_226 [3] 50 ?_
      refine And.intro (fun _ => ?_) (fun h_9 => absurd ((by rw [c1]; exact nI_le (Nat.le_refl _) (by omega))) h_9)
      rw [alB_t hj]
      exact ⟨rfl, rfl, rfl, rfl⟩
    · intro hj
      refine ab_sound ok_226 [3] 50 ?_
      refine And.intro (fun h_9 => absurd h_9 ((by rw [c1]; exact nI_ge hk (by omega)))) (fun _ => ?_)
      (refine Exists.intro 0 ?_; refine ⟨0, _, Nat.zero_le _, Nat.zero_le _, c_Mod_at _ _ t k _ _ rfl rfl, ?_⟩; refine ab_q1_elim ?_)
      (refine Exists.intro 0 ?_; refine ⟨0, _, Nat.zero_le _, Nat.zero_le _, c_Mod_by _ M (by omega) (by omega) _ _ rfl c1, ?_⟩; refine ab_q1_elim ?_)
      rw [show md (nI k + nI m).toInt64.toInt M = (k + m) % M by rw [nI_add, nI_l (by omega), lN_toInt (by omega), md_nat]]
      have hlt : (k + m) % M < M := Nat.mod_lt _ (by omega)
      (refine Exists.intro 0 ?_; refine ⟨0, _, Nat.zero_le _, Nat.zero_le _, c_Mod_isLike_116_118 _ _ (phi M) (3600 * t + 60 * k) (60 * ((k + m) % M)) 28800 3600 _ _ rfl (pk_mul _ _) hp (by omega) (by omega) (by omega) (by omega) c2 rfl rfl rfl, ?_⟩; refine ab_q1_elim ?_)
      rw [row0 g ((k + m) % M)]
      have e : lkB (phi M) (fun i => G (3600 * t + 60 * k + i)) (rowsOf g 0 ((k + m) % M)) = lkB (phi M) (rowsOf G (3600 * t) k) (rowsOf g 0 ((k + m) % M)) := rfl
      rw [e]
      cases hc : lkB (phi M) (rowsOf G (3600 * t) k) (rowsOf g 0 ((k + m) % M))
      · refine And.intro (fun h_9 => absurd (rfl) h_9) (fun _ => ?_)
        rw [alB_f (P := fun k => lkB (phi M) (rowsOf G (3600 * t) k) (rowsOf g 0 ((k + m) % M))) hk hc]
        exact ⟨rfl, rfl, rfl, rfl⟩
      · refine And.intro (fun _ => ?_) (fun h_9 => absurd h_9 ((by decide)))
        exact ab_ev_of (ih (all_s (P := fun k => lkB (phi M) (rowsOf G (3600 * t) k) (rowsOf g 0 ((k + m) % M))) hj hc)) (by rw [nI_s k]; rfl) rfl rfl
  exact loop 0 (by omega) (fun j hj => by omega)
theorem k_Mod_same (x y : Int32) (t : Nat) (mir : Bool) (w : ab_W) (n : Nat) {s : Nat → Int32} {wd tn : Int64} {N : Nat → Nat} {R : Nat → Nat → Nat → Int64} (hx : x = nI t) (hy : y = b01 mir) (ht : t < 8) (hN : N t ≠ 0) (h : MB w s wd tn N R) : ab_C X l i_Mod_same [.ref 90, .int x, .int y] w n 0 0 (qI (nI (cnt (inB (N t) (R t) mir) (N t))) (mQ w n s wd tn (nI 0) N R)) := by
  subst hx
  have hB0 := h.set0 (nI 0)
  obtain ⟨h0, -⟩ := h
  obtain ⟨w9, rfl⟩ := va_ex h0
  refine ab_mqI cd_219 om_219 rfl (ab_sound ok_219 [100] 80 ?_)
  (refine Exists.intro 0 ?_; refine ⟨0, _, Nat.zero_le _, Nat.zero_le _, k_has_y _ t _ _ rfl ht hN hB0.1 hB0.2.1 hB0.2.2.1, ?_⟩; rintro _ w1 _ ⟨rfl, rfl, e1, s1, e2, e3, e4⟩)
  have hB1 := hB0.laid e1 e2 e4
  have f1 : Fr FM (va_up w9 90 (oMod s wd tn)) w1 := (Fr.refl.up (by omega)).trans (e1.mono (fun k hk => by omega))
  have g1 : Fr GA s s1 := (Fr.refl.us (by omega)).trans (e3.mono (fun k hk => by omega))
  have g10 : s1 0 = nI 0 := e3.get rfl (by omega)
  obtain ⟨hM, ⟨c1, c2⟩, pf, pg, ph, c3, c4, c5, c6⟩ := id e4
  have hp := phi_le _ hM.2
  obtain ⟨G, G1, G2⟩ := hB1.2.2.1.rows
  have hR := G2 t ht
  obtain ⟨f4, h114⟩ := hB1.2.2.2.1
  obtain ⟨f7, h117⟩ := hB1.2.2.2.2.1
  obtain ⟨f8, h118⟩ := hB1.2.2.2.2.2
  generalize hMe : N t = M at *
  generalize hPe : inB M (R t) mir = P
  have loop : ∀ u, u ≤ M → ∀ w3, Fr FT w1 w3 → ∀ f, w3 114 = aJ 60 f → ∀ g, w3 118 = aJ 3600 g → ab_Ev X l i_Mod_same 100 [some (.ref 90), some (.int (nI t)), some (.int y), some (.int (nI (cnt P u))), some (.int (nI u))] [] w3 n 0 0 (qI (nI (cnt P M)) (mQ (va_up w9 90 (oMod s wd tn)) n s wd tn (nI 0) N R)) := by
    refine ab_up M ?_ (fun u hu ih => ?_)
    · intro w3 hf f hf4 g hg
      have hB3 : MB w3 s1 wd tn N R := hB1.wr hf (fun k hk => by omega) ⟨f, hf4⟩ ⟨f7, hf.get h117 (by omega)⟩ ⟨g, hg⟩
      have hf3 := f1.trans (hf.mono (fun k hk => by omega))
      obtain ⟨w3, rfl⟩ := va_ex2 hB3.1 hg
      refine ab_sound ok_219 [100] 80 ?_
      refine And.intro (fun _ => ?_) (fun h_9 => absurd ((by rw [c1]; exact nI_le (Nat.le_refl _) (by omega))) h_9)
      exact ⟨rfl, rfl, hf3, s1, g1, g10, hB3⟩
    · intro w3 hf f hf4 g hg
      have k90 : w3 90 = oMod s1 wd tn := hf.get hB1.1 (by omega)
      have k116 : w3 116 = aJ 28800 G := hf.get G1 (by omega)
      have k113 : w3 113 = aI 3600 ph := hf.get c5 (by omega)
      have hu2 : cnt P (u + 1) = cnt P u + (if P u = true then 1 else 0) := rfl
      rw [hu2] at ih
      have go : ab_Ev X l i_Mod_same 123 [some (.ref 90), some (.int (nI t)), some (.int y), some (.int (nI (cnt P u))), some (.int (nI u))] [.int (b01 mir), .int (nI u), .int (nI t), .ref 90] w3 n 0 0 (qI (nI (cnt P M)) (mQ (va_up w9 90 (oMod s wd tn)) n s wd tn (nI 0) N R)) := by
        obtain ⟨w3, rfl⟩ := va_ex k90
        refine ab_sound ok_219 [100] 80 ?_
        (refine Exists.intro 0 ?_; refine ⟨0, _, Nat.zero_le _, Nat.zero_le _, k_turnAll _ _ _ t u M mir _ _ rfl rfl rfl ht hu hM rfl c1 c2 k113 c6 hf4 k116 hg hR, ?_⟩; rintro _ w4 _ ⟨rfl, rfl, f5, ⟨f6, h6⟩, g6, h7, h8⟩)
        have k90b : w4 90 = oMod s1 wd tn := f5.get rfl (by omega)
        have k116b : w4 116 = aJ 28800 G := f5.get k116 (by omega)
        have ih2 := ih w4 (hf.trans f5) f6 h6 g6 h7
        obtain ⟨w4, rfl⟩ := va_ex k90b
        (refine Exists.intro 0 ?_; refine ⟨0, _, Nat.zero_le _, Nat.zero_le _, k_isSameSet _ t M _ _ rfl ht hM rfl c1 c2 k116b h7, ?_⟩; refine ab_q1_elim ?_)
        rw [conv_same hM hu hR h8, hPe]
        cases hc : P u
        · refine And.intro (fun _ => ?_) (fun h_9 => absurd (rfl) h_9)
          rw [hc] at ih2
          exact ab_ev_of ih2 (by rw [nI_s u]; rfl) rfl rfl
        · refine And.intro (fun h_9 => absurd h_9 ((by decide))) (fun _ => ?_)
          rw [hc, if_pos rfl] at ih2
          exact ab_ev_of ih2 (by rw [nI_s u, nI_s (cnt P u)]; rfl) rfl rfl
      obtain ⟨w3, rfl⟩ := va_ex k90
      refine ab_sound ok_219 [100, 123] 80 ?_
      refine And.intro (fun h_9 => absurd h_9 ((by rw [c1]; exact nI_ge hu (by omega)))) (fun _ => ?_)
      cases mir with
      | true =>
        refine And.intro (fun h_9 => absurd (hy) h_9) (fun _ => ?_)
        exact go
      | false =>
        refine And.intro (fun _ => ?_) (fun h_9 => absurd h_9 ((by rw [hy]; decide)))
        exact go
  obtain ⟨w1, rfl⟩ := va_ex e2
  refine And.intro (fun h_9 => absurd h_9 ((by decide))) (fun _ => ?_)
  (refine Exists.intro 0 ?_; refine ⟨0, _, Nat.zero_le _, Nat.zero_le _, c_Mod_isIn _ _ _ _ _, ?_⟩; refine ab_q1_elim ?_)
  rw [isIn_y (by rw [hy]; cases mir <;> decide)]
  refine And.intro (fun _ => ?_) (fun h_9 => absurd h_9 ((by decide)))
  refine And.intro (fun _ => ?_) (fun h_9 => absurd h_9 ((by rw [hy]; cases mir <;> decide)))
  exact ab_ev_of (loop 0 (by omega) _ Fr.refl f4 h114 f8 h118) rfl rfl rfl
end MORB
