section MAPI3
variable {X : ab_X} {l : Launch}
theorem k_Mod_product_n (x y z : Int32) (w : ab_W) (n : Nat) {s : Nat → Int32} {wd tn : Int64} {N : Nat → Nat} {R : Nat → Nat → Nat → Int64} (h : MB w s wd tn N R) (hb : (x < 0 ∨ nI 8 ≤ x) ∨ badS N y ∨ badS N z ∨ ∃ u v, u < 8 ∧ v < 8 ∧ y = nI u ∧ z = nI v ∧ N u ≠ 0 ∧ N v ≠ 0 ∧ N u ≠ N v) :
    ab_C X l i_Mod_product [.ref 90, .int x, .int y, .int z] w n 0 0 (qI (-nI 1) (mQ w n s wd tn (nI 0) N R)) := by
  have hB0 := h.set0 (nI 0)
  obtain ⟨h0, -⟩ := h
  obtain ⟨w9, rfl⟩ := va_ex h0
  refine ab_mqI cd_228 om_228 rfl (ab_sound ok_228 [48] 80 ?_)
  rcases in_or 8 (by omega) x with ⟨t, ht, hx⟩ | hx
  · (refine Exists.intro 0 ?_; refine ⟨0, _, Nat.zero_le _, Nat.zero_le _, c_Mod_isSheet_y _ t _ _ hx ht, ?_⟩; refine ab_q1_elim ?_)
    refine And.intro (fun h_9 => absurd h_9 ((by decide))) (fun _ => ?_)
    rcases sh_or N y with ⟨u, hu, hy, hNu⟩ | hy
    · (refine Exists.intro 0 ?_; refine ⟨0, _, Nat.zero_le _, Nat.zero_le _, k_has_y _ u _ _ hy hu hNu hB0.1 hB0.2.1 hB0.2.2.1, ?_⟩; rintro _ w1 _ ⟨rfl, rfl, e1, s1, e2, e3, e4⟩)
      have hB1 := hB0.laid e1 e2 e4
      obtain ⟨w1, rfl⟩ := va_ex e2
      refine And.intro (fun h_9 => absurd h_9 ((by decide))) (fun _ => ?_)
      rcases sh_or N z with ⟨v, hv, hz, hNv⟩ | hz
      · (refine Exists.intro 0 ?_; refine ⟨0, _, Nat.zero_le _, Nat.zero_le _, k_has_y _ v _ _ hz hv hNv hB1.1 hB1.2.1 hB1.2.2.1, ?_⟩; rintro _ w2 _ ⟨rfl, rfl, d1, s2, d2, d3, d4⟩)
        have hB2 := hB1.laid d1 d2 d4
        obtain ⟨pt, p1, p2⟩ := hB2.2.2.1.pts
        obtain ⟨w2, rfl⟩ := va_ex2 d2 p1
        have hM1 := e4.1
        have hM2 := d4.1
        refine And.intro (fun h_9 => absurd h_9 ((by decide))) (fun _ => ?_)
        subst hy hz
        refine And.intro (vp_in_nI hu (by omega)) ?_
        refine And.intro (vp_in_nI hv (by omega)) ?_
        rw [nI_clamp (by omega), nI_clamp (by omega), p2 u hu, p2 v hv]
        have hne : N u ≠ N v := by
          rcases hb with h1 | h1 | h1 | ⟨u', v', a1, a2, a3, a4, a5, a6, a7⟩
          · exact absurd hx (n_out (by omega) ht h1)
          · rcases h1 with h1 | ⟨t', b1, b2, b3⟩
            · exact absurd rfl (n_out (by omega) hu h1)
            · have := (nI_eq (by omega) (by omega)).mp b2
              subst this
              exact absurd b3 hNu
          · rcases h1 with h1 | ⟨t', b1, b2, b3⟩
            · exact absurd rfl (n_out (by omega) hv h1)
            · have := (nI_eq (by omega) (by omega)).mp b2
              subst this
              exact absurd b3 hNv
          · have q1 := (nI_eq (by omega) (by omega)).mp a3
            have q2 := (nI_eq (by omega) (by omega)).mp a4
            subst q1 q2
            exact a7
        refine And.intro (fun h_9 => absurd h_9 ((fun q => hne ((nI_eq (by omega) (by omega)).mp q)))) (fun _ => ?_)
        exact ⟨rfl, rfl, ((Fr.refl.up (by omega)).trans (e1.mono (fun k hk => by omega))).trans (d1.mono (fun k hk => by omega)), s2, ((Fr.refl.us (by omega)).trans (e3.mono (fun k hk => by omega))).trans (d3.mono (fun k hk => by omega)), d3.get (e3.get rfl (by omega)) (by omega), hB2⟩
      · (refine Exists.intro 0 ?_; refine ⟨0, _, Nat.zero_le _, Nat.zero_le _, k_has_n _ _ _ hz e2 hB1.2.2.1, ?_⟩; refine ab_q1_elim ?_)
        refine And.intro (fun _ => ?_) (fun h_9 => absurd (rfl) h_9)
        exact ⟨rfl, rfl, (Fr.refl.up (by omega)).trans (e1.mono (fun k hk => by omega)), s1, (Fr.refl.us (by omega)).trans (e3.mono (fun k hk => by omega)), e3.get rfl (by omega), hB1⟩
    · (refine Exists.intro 0 ?_; refine ⟨0, _, Nat.zero_le _, Nat.zero_le _, k_has_n _ _ _ hy hB0.1 hB0.2.2.1, ?_⟩; refine ab_q1_elim ?_)
      refine And.intro (fun _ => ?_) (fun h_9 => absurd (rfl) h_9)
      exact ⟨rfl, rfl, Fr.refl.up (by omega), upd s 0 (nI 0), Fr.refl.us (by omega), rfl, hB0⟩
  · (refine Exists.intro 0 ?_; refine ⟨0, _, Nat.zero_le _, Nat.zero_le _, c_Mod_isSheet_n _ _ _ hx, ?_⟩; refine ab_q1_elim ?_)
    refine And.intro (fun _ => ?_) (fun h_9 => absurd (rfl) h_9)
    exact ⟨rfl, rfl, Fr.refl.up (by omega), upd s 0 (nI 0), Fr.refl.us (by omega), rfl, hB0⟩
/-- the first alike, looked for up to k -/
theorem fst_k (p : Nat) (R : Nat → Nat → Int64) (k : Nat) : (fst (fun i => lkB p (R i) (R k)) k 0 = k ↔ fresh p R k = true) ∧ fst (fun i => lkB p (R i) (R k)) k 0 ≤ k := by
  obtain ⟨h1, h2, h3, h4⟩ := fst_spec (fun i => lkB p (R i) (R k)) k 0
  generalize fst (fun i => lkB p (R i) (R k)) k 0 = v at *
  refine ⟨⟨fun e => decide_eq_true (fun i hi => h1 i (by omega) (by omega)), fun e => ?_⟩, by omega⟩
  have := of_decide_eq_true e
  rcases Nat.lt_or_ge v k with g9 | g9
  · have g2 := this v g9
    have g3 := h4 (by omega)
    rw [g2] at g3
    cases g3
  · omega
theorem isIn_y {a b v : Int32} (h : a ≤ v ∧ v ≤ b) : (if a ≤ v ∧ v ≤ b then (1 : Int32) else 0) = nI 1 := by rw [if_pos h]; rfl
theorem isIn_n {a b v : Int32} (h : ¬ (a ≤ v ∧ v ≤ b)) : (if a ≤ v ∧ v ≤ b then (1 : Int32) else 0) = nI 0 := by rw [if_neg h]; rfl
theorem k_Mod_about_n (x y : Int32) (w : ab_W) (n : Nat) {s : Nat → Int32} {wd tn : Int64} {N : Nat → Nat} {R : Nat → Nat → Nat → Int64} (hx : badS N x) (h : MB w s wd tn N R) : ab_C X l i_Mod_about [.ref 90, .int x, .int y] w n 0 0 (qI (-nI 1) (mQ w n s wd tn (nI 0) N R)) := by
  have hB0 := h.set0 (nI 0)
  obtain ⟨h0, -⟩ := h
  obtain ⟨w9, rfl⟩ := va_ex h0
  refine ab_mqI cd_216 om_216 rfl (ab_sound ok_216 [] 80 ?_)
  (refine Exists.intro 0 ?_; refine ⟨0, _, Nat.zero_le _, Nat.zero_le _, k_has_n _ _ _ hx hB0.1 hB0.2.2.1, ?_⟩; refine ab_q1_elim ?_)
  refine And.intro (fun _ => ?_) (fun h_9 => absurd (rfl) h_9)
  exact ⟨rfl, rfl, Fr.refl.up (by omega), upd s 0 (nI 0), Fr.refl.us (by omega), rfl, hB0⟩
theorem k_Mod_about (x y : Int32) (t : Nat) (w : ab_W) (n : Nat) {s : Nat → Int32} {wd tn : Int64} {N : Nat → Nat} {R : Nat → Nat → Nat → Int64} (hx : x = nI t) (ht : t < 8) (hN : N t ≠ 0) (h : MB w s wd tn N R) : ab_C X l i_Mod_about [.ref 90, .int x, .int y] w n 0 0 (qI (abV (N t) (R t) y) (mQ w n s wd tn (nI 0) N R)) := by
  subst hx
  have hB0 := h.set0 (nI 0)
  obtain ⟨h0, -⟩ := h
  obtain ⟨w9, rfl⟩ := va_ex h0
  refine ab_mqI cd_216 om_216 rfl (ab_sound ok_216 [69] 80 ?_)
  (refine Exists.intro 0 ?_; refine ⟨0, _, Nat.zero_le _, Nat.zero_le _, k_has_y _ t _ _ rfl ht hN hB0.1 hB0.2.1 hB0.2.2.1, ?_⟩; rintro _ w1 _ ⟨rfl, rfl, e1, s1, e2, e3, e4⟩)
  have hB1 := hB0.laid e1 e2 e4
  have fin : mQ (va_up w9 90 (oMod s wd tn)) n s wd tn (nI 0) N R w1 n := ⟨rfl, (Fr.refl.up (by omega)).trans (e1.mono (fun k hk => by omega)), s1, (Fr.refl.us (by omega)).trans (e3.mono (fun k hk => by omega)), e3.get rfl (by omega), hB1⟩
  obtain ⟨hM, ⟨c1, c2⟩, -⟩ := id e4
  have hp := phi_le _ hM.2
  obtain ⟨G, G1, G2⟩ := hB1.2.2.1.rows
  obtain ⟨w1, rfl⟩ := va_ex2 e2 G1
  have hR := G2 t ht
  generalize hMe : N t = M at *
  refine And.intro (fun h_9 => absurd h_9 ((by decide))) (fun _ => ?_)
  rcases in_or 5 (by omega) y with ⟨k, hk, rfl⟩ | hy
  · (refine Exists.intro 0 ?_; refine ⟨0, _, Nat.zero_le _, Nat.zero_le _, c_Mod_isIn _ _ _ _ _, ?_⟩; refine ab_q1_elim ?_)
    rw [isIn_y (by constructor <;> exact nI_le (by omega) (by omega))]
    refine And.intro (fun _ => ?_) (fun h_9 => absurd h_9 ((by decide)))
    have loop4 : ∀ (r k : Nat), k + r = M → ∀ l5 l6 : Option Value, ab_Ev X l i_Mod_about 69 [some (.ref 90), some (.int (nI t)), some (.int (nI 4)), some (.int (nI 0)), some (.int (nI k)), l5, l6] [] (va_up (va_up w1 116 (aJ 28800 G)) 90 (oMod s1 wd tn)) n 0 0 (qI (orNone (fst (fun k => !fresh (phi M) (R t) k) r k) M) (mQ (va_up w9 90 (oMod s wd tn)) n s wd tn (nI 0) N R)) := by
      intro r
      induction r with
      | zero =>
        intro k hk l5 l6
        refine ab_sound ok_216 [69] 80 ?_
        refine And.intro (fun _ => ?_) (fun h_9 => absurd ((by rw [c1]; exact nI_le (by omega) (by omega))) h_9)
        refine And.intro (fun _ => ?_) (fun h_9 => absurd h_9 ((by decide)))
        refine ⟨?_, fin⟩
        unfold fst orNone
        rw [if_neg (by omega)]
      | succ r ih =>
        intro k hk l5 l6
        obtain ⟨f1, f2⟩ := fst_k (phi M) (rowsOf G (3600 * t)) k
        refine ab_sound ok_216 [69, 112] 80 ?_
        refine And.intro (fun h_9 => absurd h_9 ((by rw [c1]; exact nI_ge (by omega) (by omega)))) (fun _ => ?_)
        refine And.intro (fun h_9 => absurd (rfl) h_9) (fun _ => ?_)
        (refine Exists.intro 0 ?_; refine ⟨0, _, Nat.zero_le _, Nat.zero_le _, c_Mod_firstLike_116 _ _ (phi M) (3600 * t) k 28800 _ _ (pk_mul 3600 t) rfl (by omega) hp (by omega) (by omega) c2 rfl rfl, ?_⟩; refine ab_q1_elim ?_)
        rw [fst_s]
        rw [fresh_congr hR (show k < M by omega)] at f1
        generalize fst (fun i => lkB (phi M) (rowsOf G (3600 * t) i) (rowsOf G (3600 * t) k)) k 0 = v at *
        by_cases hc : fresh (phi M) (R t) k = true
        · refine And.intro (fun _ => ?_) (fun h_9 => absurd ((by rw [f1.mpr hc]; exact nI_le (Nat.le_refl _) (by omega))) h_9)
          rw [hc, if_neg (by decide)]
          refine ab_sound ok_216 [69] 80 ?_
          by_cases e : s1 38 ≤ nI 0
          · refine And.intro (fun _ => ?_) (fun h_9 => absurd (e) h_9)
            refine And.intro (fun _ => ?_) (fun h_9 => absurd ((by decide)) h_9)
            exact ab_ev_of (ih (k + 1) (by omega) (some (.int (nI 0))) (some (.int (nI 0)))) (by rw [nI_s k]; rfl) rfl rfl
          · refine And.intro (fun h_9 => absurd h_9 (e)) (fun _ => ?_)
            refine And.intro (fun _ => ?_) (fun h_9 => absurd h_9 ((by decide)))
            refine And.intro (fun _ => ?_) (fun h_9 => absurd ((by decide)) h_9)
            exact ab_ev_of (ih (k + 1) (by omega) (some (.int (nI 0))) (some (.int (nI 0)))) (by rw [nI_s k]; rfl) rfl rfl
        · have e : v ≠ k := fun z => hc (f1.mp z)
          refine And.intro (fun h_9 => absurd h_9 (nI_ge (by omega) (by omega))) (fun _ => ?_)
          rw [Bool.not_eq_true] at hc
          rw [hc, if_pos (show (!false) = true from rfl)]
          refine ⟨?_, fin⟩
          unfold orNone
          rw [if_pos (by omega)]
    have hb : ∀ k, often (phi M) (R t) M k ≤ 60 := fun k => Nat.le_trans (cnt_le _ _) hM.2
    have loop3 : ∀ k, k ≤ M → ∀ l5 l6 : Option Value, ab_Ev X l i_Mod_about 69 [some (.ref 90), some (.int (nI t)), some (.int (nI 3)), some (.int (nI (maxN (often (phi M) (R t) M) k))), some (.int (nI k)), l5, l6] [] (va_up (va_up w1 116 (aJ 28800 G)) 90 (oMod s1 wd tn)) n 0 0 (qI (nI (maxN (often (phi M) (R t) M) M)) (mQ (va_up w9 90 (oMod s wd tn)) n s wd tn (nI 0) N R)) := by
      refine ab_up M ?_ (fun k hk ih => ?_)
      · intro l5 l6
        refine ab_sound ok_216 [69] 80 ?_
        refine And.intro (fun _ => ?_) (fun h_9 => absurd ((by rw [c1]; exact nI_le (by omega) (by omega))) h_9)
        refine And.intro (fun h_9 => absurd (rfl) h_9) (fun _ => ?_)
        exact ⟨rfl, fin⟩
      · intro l5 l6
        have hm := maxN_le (often (phi M) (R t) M) 60 hb k
        refine ab_sound ok_216 [69, 112] 80 ?_
        refine And.intro (fun h_9 => absurd h_9 ((by rw [c1]; exact nI_ge (by omega) (by omega)))) (fun _ => ?_)
        refine And.intro (fun _ => ?_) (fun h_9 => absurd h_9 ((by decide)))
        have inn : ∀ j, j ≤ M → ab_Ev X l i_Mod_about 112 [some (.ref 90), some (.int (nI t)), some (.int (nI 3)), some (.int (nI (maxN (often (phi M) (R t) M) k))), some (.int (nI k)), some (.int (nI (cnt (fun j => lkB (phi M) (R t j) (R t k)) j))), some (.int (nI j))] [] (va_up (va_up w1 116 (aJ 28800 G)) 90 (oMod s1 wd tn)) n 0 0 (qI (nI (maxN (often (phi M) (R t) M) M)) (mQ (va_up w9 90 (oMod s wd tn)) n s wd tn (nI 0) N R)) := by
          refine ab_up M ?_ (fun j hj ih2 => ?_)
          · refine ab_sound ok_216 [69, 112] 80 ?_
            refine And.intro (fun _ => ?_) (fun h_9 => absurd ((by rw [c1]; exact nI_le (by omega) (by omega))) h_9)
            have hu : maxN (often (phi M) (R t) M) (k + 1) = if often (phi M) (R t) M k ≤ maxN (often (phi M) (R t) M) k then maxN (often (phi M) (R t) M) k else often (phi M) (R t) M k := rfl
            have hbk := hb k
            rw [hu] at ih
            by_cases hc : often (phi M) (R t) M k ≤ maxN (often (phi M) (R t) M) k
            · rw [if_pos hc] at ih
              refine And.intro (fun _ => ?_) (fun h_9 => absurd (nI_le hc (by omega)) h_9)
              exact ab_ev_of (ih (some (.int (nI (often (phi M) (R t) M k)))) (some (.int (nI M)))) (by rw [nI_s k]; rfl) rfl rfl
            · rw [if_neg hc] at ih
              refine And.intro (fun h_9 => absurd h_9 (nI_ge (show maxN (often (phi M) (R t) M) k < often (phi M) (R t) M k by omega) (Nat.lt_of_le_of_lt (hb k) (by omega)))) (fun _ => ?_)
              exact ab_ev_of (ih (some (.int (nI (often (phi M) (R t) M k)))) (some (.int (nI M)))) (by rw [nI_s k]; rfl) rfl rfl
          · refine ab_sound ok_216 [69, 112] 80 ?_
            refine And.intro (fun h_9 => absurd h_9 ((by rw [c1]; exact nI_ge (by omega) (by omega)))) (fun _ => ?_)
            refine And.intro (fun h_9 => absurd (rfl) h_9) (fun _ => ?_)
            (refine Exists.intro 0 ?_; refine ⟨0, _, Nat.zero_le _, Nat.zero_le _, c_Mod_at _ _ t j _ _ rfl rfl, ?_⟩; refine ab_q1_elim ?_)
            (refine Exists.intro 0 ?_; refine ⟨0, _, Nat.zero_le _, Nat.zero_le _, c_Mod_at _ _ t k _ _ rfl rfl, ?_⟩; refine ab_q1_elim ?_)
            (refine Exists.intro 0 ?_; refine ⟨0, _, Nat.zero_le _, Nat.zero_le _, c_Mod_isLike_116 _ _ (phi M) (3600 * t + 60 * j) (3600 * t + 60 * k) 28800 _ _ rfl rfl hp (by omega) (by omega) (by omega) c2 rfl rfl, ?_⟩; refine ab_q1_elim ?_)
            rw [show lkB (phi M) (fun i => G (3600 * t + 60 * j + i)) (fun i => G (3600 * t + 60 * k + i)) = lkB (phi M) (R t j) (R t k) from lk_congr hR hj hk]
            have hu : cnt (fun j => lkB (phi M) (R t j) (R t k)) (j + 1) = cnt (fun j => lkB (phi M) (R t j) (R t k)) j + (if lkB (phi M) (R t j) (R t k) = true then 1 else 0) := rfl
            rw [hu] at ih2
            refine And.intro (fun hc => ?_) (fun hc => ?_)
            · rw [b01_0] at hc
              rw [hc, if_neg (by decide)] at ih2
              exact ab_ev_of ih2 (by rw [nI_s j]; rfl) rfl rfl
            · rw [b01_0, Bool.not_eq_false] at hc
              rw [hc, if_pos rfl] at ih2
              exact ab_ev_of ih2 (by rw [nI_s j, nI_s (cnt _ j)]; rfl) rfl rfl
        exact ab_ev_of (inn 0 (by omega)) rfl rfl rfl
    have hk5 : k = 0 ∨ k = 1 ∨ k = 2 ∨ k = 3 ∨ k = 4 := by omega
    rcases hk5 with rfl | rfl | rfl | rfl | rfl
    · refine And.intro (fun h_9 => absurd h_9 (nI_ge (by omega) (by omega))) (fun _ => ?_)
      refine And.intro (fun h_9 => absurd (rfl) h_9) (fun _ => ?_)
      refine ⟨?_, fin⟩
      unfold abV
      rw [if_pos rfl]
      exact congrArg (fun q => some (Value.int q)) c1
    · refine And.intro (fun h_9 => absurd h_9 (nI_ge (by omega) (by omega))) (fun _ => ?_)
      refine And.intro (fun _ => ?_) (fun h_9 => absurd h_9 ((by decide)))
      refine ⟨?_, fin⟩
      unfold abV
      rw [if_neg (by decide), if_pos rfl]
      exact congrArg (fun q => some (Value.int q)) c2
    · refine And.intro (fun _ => ?_) (fun h_9 => absurd (nI_le (by omega) (by omega)) h_9)
      refine And.intro (fun h_9 => absurd (rfl) h_9) (fun _ => ?_)
      (refine Exists.intro 0 ?_; refine ⟨0, _, Nat.zero_le _, Nat.zero_le _, c_Mod_unlike_116 _ M (phi M) (3600 * t) 28800 _ _ (pk_mul 3600 t) hM.2 hp (by omega) (by omega) c1 c2 rfl rfl, ?_⟩; refine ab_q1_elim ?_)
      refine ⟨?_, fin⟩
      unfold abV
      rw [if_neg (by decide), if_neg (by decide), if_pos rfl]
      rw [cnt_congr M (fun k hk => fresh_congr hR hk)]
    · refine And.intro (fun _ => ?_) (fun h_9 => absurd (nI_le (by omega) (by omega)) h_9)
      refine And.intro (fun _ => ?_) (fun h_9 => absurd h_9 ((by decide)))
      unfold abV
      rw [if_neg (by decide), if_neg (by decide), if_neg (by decide), if_pos rfl]
      exact ab_ev_of (loop3 0 (by omega) none none) rfl rfl rfl
    · refine And.intro (fun _ => ?_) (fun h_9 => absurd (nI_le (by omega) (by omega)) h_9)
      refine And.intro (fun _ => ?_) (fun h_9 => absurd h_9 ((by decide)))
      unfold abV
      rw [if_neg (by decide), if_neg (by decide), if_neg (by decide), if_neg (by decide), if_pos rfl]
      exact ab_ev_of (loop4 M 0 (by omega) none none) rfl rfl rfl
  · (refine Exists.intro 0 ?_; refine ⟨0, _, Nat.zero_le _, Nat.zero_le _, c_Mod_isIn _ _ _ _ _, ?_⟩; refine ab_q1_elim ?_)
    have h9 : ∀ j, j < 5 → ¬ y = nI j := fun j hj => n_out (by omega) hj hy
    rw [isIn_n (by
      rintro ⟨q1, q2⟩
      rcases hy with hy | hy
      · rw [i32_lt] at hy
        rw [i32_le] at q1
        have z0 : (0 : Int32).toInt = 0 := rfl
        have z1 : (nI 0).toInt = 0 := rfl
        omega
      · rw [i32_le] at hy q2
        have z0 : (nI 4).toInt = 4 := rfl
        have z1 : (nI 5).toInt = 5 := rfl
        omega)]
    refine And.intro (fun h_9 => absurd (rfl) h_9) (fun _ => ?_)
    refine ⟨?_, fin⟩
    unfold abV
    rw [if_neg (h9 0 (by omega)), if_neg (h9 1 (by omega)), if_neg (h9 2 (by omega)), if_neg (h9 3 (by omega)), if_neg (h9 4 (by omega))]
end MAPI3
