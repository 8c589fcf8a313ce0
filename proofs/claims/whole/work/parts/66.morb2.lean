section MORB2
variable {X : ab_X} {l : Launch}
theorem k_Mod_again_n (x y : Int32) (w : ab_W) (n : Nat) {s : Nat → Int32} {wd tn : Int64} {N : Nat → Nat} {R : Nat → Nat → Nat → Int64} (hx : badS N x ∨ (y < 0 ∨ nI 2 ≤ y)) (h : MB w s wd tn N R) : ab_C X l i_Mod_again [.ref 90, .int x, .int y] w n 0 0 (qI (-nI 1) (mQ w n s wd tn (nI 0) N R)) := by
  have hB0 := h.set0 (nI 0)
  obtain ⟨h0, -⟩ := h
  obtain ⟨w9, rfl⟩ := va_ex h0
  refine ab_mqI cd_227 om_227 rfl (ab_sound ok_227 [29] 80 ?_)
  rcases sh_or N x with ⟨t, ht, hx2, hN⟩ | hx2
  · (refine Exists.intro 0 ?_; refine ⟨0, _, Nat.zero_le _, Nat.zero_le _, k_has_y _ t _ _ hx2 ht hN hB0.1 hB0.2.1 hB0.2.2.1, ?_⟩; rintro _ w1 _ ⟨rfl, rfl, e1, s1, e2, e3, e4⟩)
    have hB1 := hB0.laid e1 e2 e4
    obtain ⟨w1, rfl⟩ := va_ex e2
    refine And.intro (fun h_9 => absurd h_9 ((by decide))) (fun _ => ?_)
    have hy : y < 0 ∨ nI 2 ≤ y := by
      rcases hx with (hx | ⟨t', b1, b2, b3⟩) | hx
      · exact absurd hx2 (n_out (by omega) ht hx)
      · have := (nI_eq (by omega) (by omega)).mp (hx2.symm.trans b2)
        subst this
        exact absurd b3 hN
      · exact hx
    (refine Exists.intro 0 ?_; refine ⟨0, _, Nat.zero_le _, Nat.zero_le _, c_Mod_isIn _ _ _ _ _, ?_⟩; refine ab_q1_elim ?_)
    rw [isIn_n (by
      rintro ⟨q1, q2⟩
      rcases hy with hy | hy
      · rw [i32_lt] at hy
        rw [i32_le] at q1
        have z0 : (0 : Int32).toInt = 0 := rfl
        have z1 : (nI 0).toInt = 0 := rfl
        omega
      · rw [i32_le] at hy q2
        have z0 : (nI 1).toInt = 1 := rfl
        have z1 : (nI 2).toInt = 2 := rfl
        omega)]
    refine And.intro (fun h_9 => absurd (rfl) h_9) (fun _ => ?_)
    exact ⟨rfl, rfl, (Fr.refl.up (by omega)).trans (e1.mono (fun k hk => by omega)), s1, (Fr.refl.us (by omega)).trans (e3.mono (fun k hk => by omega)), e3.get rfl (by omega), hB1⟩
  · (refine Exists.intro 0 ?_; refine ⟨0, _, Nat.zero_le _, Nat.zero_le _, k_has_n _ _ _ hx2 hB0.1 hB0.2.2.1, ?_⟩; refine ab_q1_elim ?_)
    refine And.intro (fun _ => ?_) (fun h_9 => absurd (rfl) h_9)
    exact ⟨rfl, rfl, Fr.refl.up (by omega), upd s 0 (nI 0), Fr.refl.us (by omega), rfl, hB0⟩
theorem k_Mod_again (x y : Int32) (t : Nat) (e : Bool) (w : ab_W) (n : Nat) {s : Nat → Int32} {wd tn : Int64} {N : Nat → Nat} {R : Nat → Nat → Nat → Int64} (hx : x = nI t) (hy : y = b01 e) (ht : t < 8) (hN : N t ≠ 0) (h : MB w s wd tn N R) : ab_C X l i_Mod_again [.ref 90, .int x, .int y] w n 0 0 (qI (nI (if e = true then dcnt (bgB (N t) (R t) (R t) false) (N t) (N t) else fst (roundB (phi (N t)) (R t) (N t)) (N t - 1) 1)) (mQ w n s wd tn (nI 0) N R)) := by
  subst hx
  have hB0 := h.set0 (nI 0)
  obtain ⟨h0, -⟩ := h
  obtain ⟨w9, rfl⟩ := va_ex h0
  refine ab_mqI cd_227 om_227 rfl (ab_sound ok_227 [29] 80 ?_)
  (refine Exists.intro 0 ?_; refine ⟨0, _, Nat.zero_le _, Nat.zero_le _, k_has_y _ t _ _ rfl ht hN hB0.1 hB0.2.1 hB0.2.2.1, ?_⟩; rintro _ w1 _ ⟨rfl, rfl, e1, s1, e2, e3, e4⟩)
  have hB1 := hB0.laid e1 e2 e4
  have f1 : Fr FM (va_up w9 90 (oMod s wd tn)) w1 := (Fr.refl.up (by omega)).trans (e1.mono (fun k hk => by omega))
  have g1 : Fr GA s s1 := (Fr.refl.us (by omega)).trans (e3.mono (fun k hk => by omega))
  have g10 : s1 0 = nI 0 := e3.get rfl (by omega)
  obtain ⟨hM, ⟨c1, c2⟩, pf, pg, ph, c3, c4, c5, c6⟩ := id e4
  have hp := phi_le _ hM.2
  obtain ⟨G, G1, G2⟩ := hB1.2.2.1.rows
  have hR := G2 t ht
  obtain ⟨f4, h114⟩ := hB1.2.2.2.1
  obtain ⟨f7, h117⟩ := hB1.2.2.2.2.1
  obtain ⟨f8, h118⟩ := hB1.2.2.2.2.2
  generalize hMe : N t = M at *
  generalize hPe : (fun u m => bgB M (R t) (R t) false u (m + 1)) = P
  have hPu : ∀ u m, P u m = bgB M (R t) (R t) false u (m + 1) := fun u m => by rw [← hPe]
  have hval : Int32 := nI 0
  have hfin : ∀ w3, Fr FT w1 w3 → (∃ f, w3 114 = aJ 60 f) → (∃ g, w3 118 = aJ 3600 g) → mQ (va_up w9 90 (oMod s wd tn)) n s wd tn (nI 0) N R w3 n := by
    intro w3 hf hf4 hg
    have hB3 : MB w3 s1 wd tn N R := hB1.wr hf (fun k hk => by omega) hf4 ⟨f7, hf.get h117 (by omega)⟩ hg
    exact ⟨rfl, f1.trans (hf.mono (fun k hk => by omega)), s1, g1, g10, hB3⟩
  have loop : ∀ u, u ≤ M → (e = false → u = 0) → ∀ w3, Fr FT w1 w3 → ∀ f, w3 114 = aJ 60 f → ∀ g, w3 118 = aJ 3600 g → ∀ l5 : Option Value, ab_Ev X l i_Mod_again 29 [some (.ref 90), some (.int (nI t)), some (.int y), some (.int (nI (dcnt P M u))), some (.int (nI u)), l5] [] w3 n 0 0 (qI (nI (if e = true then dcnt (bgB M (R t) (R t) false) M M else fst (roundB (phi M) (R t) M) (M - 1) 1)) (mQ (va_up w9 90 (oMod s wd tn)) n s wd tn (nI 0) N R)) := by
    refine ab_up M ?_ (fun u hu ih => ?_)
    · intro he w3 hf f hf4 g hg l5
      have k90 : w3 90 = oMod s1 wd tn := hf.get hB1.1 (by omega)
      have hfin := hfin w3 hf ⟨f, hf4⟩ ⟨g, hg⟩
      cases e with
      | false => have := he rfl; omega
      | true =>
        obtain ⟨w3, rfl⟩ := va_ex k90
        refine ab_sound ok_227 [29] 80 ?_
        refine And.intro (fun _ => ?_) (fun h_9 => absurd ((by rw [c1]; exact nI_le (Nat.le_refl _) (by omega))) h_9)
        refine ⟨congrArg (fun q => some (Value.int (nI q))) ?_, hfin⟩
        rw [if_pos rfl]
        refine dcnt_congr _ (fun u hu => ?_)
        rw [← hPe]
        refine cnt_cyc (P := bgB M (R t) (R t) false u) ?_
        unfold bgB
        exact alB_congr (fun k hk => by rw [Nat.add_mod_right, Nat.add_zero])
    · intro he w3 hf f hf4 g hg l5
      have k90 : w3 90 = oMod s1 wd tn := hf.get hB1.1 (by omega)
      have k116 : w3 116 = aJ 28800 G := hf.get G1 (by omega)
      have k113 : w3 113 = aI 3600 ph := hf.get c5 (by omega)
      have hu2 : dcnt P M (u + 1) = dcnt P M u + cnt (P u) M := rfl
      rw [hu2] at ih
      obtain ⟨w3, rfl⟩ := va_ex k90
      refine ab_sound ok_227 [29, 53] 80 ?_
      refine And.intro (fun h_9 => absurd h_9 ((by rw [c1]; exact nI_ge hu (by omega)))) (fun _ => ?_)
      (refine Exists.intro 0 ?_; refine ⟨0, _, Nat.zero_le _, Nat.zero_le _, k_turnAll _ _ _ t u M false _ _ rfl rfl rfl ht hu hM rfl c1 c2 k113 c6 hf4 k116 hg hR, ?_⟩; rintro _ w4 _ ⟨rfl, rfl, f5, ⟨f6, h6⟩, g6, h7, h8⟩)
      have hf4' := hf.trans f5
      have hfin := hfin w4 hf4' ⟨f6, h6⟩ ⟨g6, h7⟩
      have k90b : w4 90 = oMod s1 wd tn := f5.get rfl (by omega)
      have k116b : w4 116 = aJ 28800 G := f5.get k116 (by omega)
      have inn : ∀ m, m ≤ M → (e = false → ∀ j, j < m → P u j = false) → ab_Ev X l i_Mod_again 53 [some (.ref 90), some (.int (nI t)), some (.int y), some (.int (nI (dcnt P M u + cnt (P u) m))), some (.int (nI u)), some (.int (nI (m + 1)))] [] w4 n 0 0 (qI (nI (if e = true then dcnt (bgB M (R t) (R t) false) M M else fst (roundB (phi M) (R t) M) (M - 1) 1)) (mQ (va_up w9 90 (oMod s wd tn)) n s wd tn (nI 0) N R)) := by
        refine ab_up M ?_ (fun m hm ih2 => ?_)
        · intro hq
          cases e with
          | false =>
            exfalso
            have h1 := hq rfl (M - 1) (by omega)
            have h2 := he rfl
            subst h2
            rw [hPu, bg_round hM.1, show M - 1 + 1 = M by omega, round_M] at h1
            cases h1
          | true =>
            have ih3 := ih (fun z => by cases z) w4 hf4' f6 h6 g6 h7 (some (.int (nI (M + 1))))
            obtain ⟨w4, rfl⟩ := va_ex k90b
            refine ab_sound ok_227 [29] 80 ?_
            refine And.intro (fun _ => ?_) (fun h_9 => absurd ((by rw [c1]; exact nI_lt (by omega) (by omega))) h_9)
            exact ab_ev_of ih3 (by rw [nI_s u]; rfl) rfl rfl
        · intro hq
          have hu3 : cnt (P u) (m + 1) = cnt (P u) m + (if P u m = true then 1 else 0) := rfl
          rw [hu3, ← Nat.add_assoc] at ih2
          obtain ⟨w4, rfl⟩ := va_ex k90b
          refine ab_sound ok_227 [53] 80 ?_
          refine And.intro (fun h_9 => absurd h_9 ((by rw [c1]; exact nI_nlt (by omega) (by omega)))) (fun _ => ?_)
          (refine Exists.intro 0 ?_; refine ⟨0, _, Nat.zero_le _, Nat.zero_le _, k_begins _ _ t (m + 1) M _ _ rfl rfl ht (by omega) hM rfl c1 c2 k116b h7, ?_⟩; refine ab_q1_elim ?_)
          rw [conv_bg (by omega) hR h8, ← hPu]
          cases hc : P u m
          · refine And.intro (fun h_9 => absurd (rfl) h_9) (fun _ => ?_)
            rw [hc] at ih2
            exact ab_ev_of (ih2 (fun z => all_s (hq z) hc)) (by rw [nI_s (m + 1)]; rfl) rfl rfl
          · refine And.intro (fun _ => ?_) (fun h_9 => absurd h_9 ((by decide)))
            cases e with
            | false =>
              refine And.intro (fun h_9 => absurd (hy) h_9) (fun _ => ?_)
              have h2 := he rfl
              subst h2
              refine ⟨congrArg (fun q => some (Value.int (nI q))) ?_, hfin⟩
              rw [if_neg (by decide)]
              refine (fst1 (by omega) (by omega) (by rw [← bg_round hM.1, ← hPu]; exact hc) (fun j h1 h2 => ?_)).symm
              have := hq rfl (j - 1) (by omega)
              rw [hPu, show j - 1 + 1 = j by omega, bg_round hM.1] at this
              exact this
            | true =>
              refine And.intro (fun _ => ?_) (fun h_9 => absurd h_9 ((by rw [hy]; decide)))
              rw [hc, if_pos rfl] at ih2
              exact ab_ev_of (ih2 (fun z => by cases z)) (by rw [nI_s (m + 1), nI_s (dcnt P M u + cnt (P u) m)]; rfl) rfl rfl
      exact ab_ev_of (inn 0 (by omega) (fun _ j hj => by omega)) rfl rfl rfl
  obtain ⟨w1, rfl⟩ := va_ex e2
  refine And.intro (fun h_9 => absurd h_9 ((by decide))) (fun _ => ?_)
  (refine Exists.intro 0 ?_; refine ⟨0, _, Nat.zero_le _, Nat.zero_le _, c_Mod_isIn _ _ _ _ _, ?_⟩; refine ab_q1_elim ?_)
  rw [isIn_y (by rw [hy]; cases e <;> decide)]
  refine And.intro (fun _ => ?_) (fun h_9 => absurd h_9 ((by decide)))
  exact ab_ev_of (loop 0 (by omega) (fun _ => rfl) _ Fr.refl f4 h114 f8 h118 none) rfl rfl rfl
theorem k_Mod_one (x y : Int32) (u v : Nat) (w : ab_W) (n : Nat) {s : Nat → Int32} {wd tn : Int64} {N : Nat → Nat} {R : Nat → Nat → Nat → Int64} (hx : x = nI u) (hy : y = nI v) (hu : u < 8) (hv : v < 8) (hN0 : N u ≠ 0) (hNv : N v = N u) (h : MB w s wd tn N R) :
    ab_C X l i_Mod_one [.ref 90, .int x, .int y] w n 0 0 (qI (oneV (N u) (R v) (R u)) (mQ w n s wd tn (nI 0) N R)) := by
  subst hx hy
  have hB0 := h.set0 (nI 0)
  obtain ⟨h0, -⟩ := h
  obtain ⟨w9, rfl⟩ := va_ex h0
  refine ab_mqI cd_225 om_225 rfl (ab_sound ok_225 [41] 80 ?_)
  (refine Exists.intro 0 ?_; refine ⟨0, _, Nat.zero_le _, Nat.zero_le _, k_has_y _ u _ _ rfl hu hN0 hB0.1 hB0.2.1 hB0.2.2.1, ?_⟩; rintro _ w1 _ ⟨rfl, rfl, e1, s1, e2, e3, e4⟩)
  have hB1 := hB0.laid e1 e2 e4
  obtain ⟨w1, rfl⟩ := va_ex e2
  refine And.intro (fun h_9 => absurd h_9 ((by decide))) (fun _ => ?_)
  (refine Exists.intro 0 ?_; refine ⟨0, _, Nat.zero_le _, Nat.zero_le _, k_has_y _ v _ _ rfl hv (by omega) hB1.1 hB1.2.1 hB1.2.2.1, ?_⟩; rintro _ w2 _ ⟨rfl, rfl, d1, s2, d2, d3, d4⟩)
  have hB2 := hB1.laid d1 d2 d4
  obtain ⟨pt, p1, p2⟩ := hB2.2.2.1.pts
  have f0 : Fr FM (va_up w9 90 (oMod s wd tn)) w2 := ((Fr.refl.up (by omega)).trans (e1.mono (fun k hk => by omega))).trans (d1.mono (fun k hk => by omega))
  have g0 : Fr GA s s2 := ((Fr.refl.us (by omega)).trans (e3.mono (fun k hk => by omega))).trans (d3.mono (fun k hk => by omega))
  have g00 : s2 0 = nI 0 := d3.get (e3.get rfl (by omega)) (by omega)
  rw [hNv] at d4
  have q2u := p2 u hu
  have q2v := p2 v hv
  rw [hNv] at q2v
  obtain ⟨G, G1, G2⟩ := hB2.2.2.1.rows
  have hRu := G2 u hu
  have hRv := G2 v hv
  rw [hNv] at hRv
  generalize hMe : N u = M at *
  obtain ⟨hM, ⟨c1, c2⟩, pf, pg, ph, c3, c4, c5, c6⟩ := id d4
  have hp := phi_le M hM.2
  obtain ⟨f4, h114⟩ := hB2.2.2.2.1
  obtain ⟨f7, h117⟩ := hB2.2.2.2.2.1
  obtain ⟨f8, h118⟩ := hB2.2.2.2.2.2
  have hfin : ∀ w3, Fr FT w2 w3 → (∃ f, w3 114 = aJ 60 f) → (∃ g, w3 118 = aJ 3600 g) → mQ (va_up w9 90 (oMod s wd tn)) n s wd tn (nI 0) N R w3 n := by
    intro w3 hf hf4 hg
    have hB3 : MB w3 s2 wd tn N R := hB2.wr hf (fun k hk => by omega) hf4 ⟨f7, hf.get h117 (by omega)⟩ hg
    exact ⟨rfl, f0.trans (hf.mono (fun k hk => by omega)), s2, g0, g00, hB3⟩
  generalize hQ : qI (oneV M (R v) (R u)) (mQ (va_up w9 90 (oMod s wd tn)) n s wd tn (nI 0) N R) = Q
  have lp : ∀ mir : Bool, (mir = true → fmV M (bgB M (R v) (R u) false) = -nI 1) → (∀ w3, Fr FT w2 w3 → ∀ f, w3 114 = aJ 60 f → ∀ g, w3 118 = aJ 3600 g → (∀ j, j < M → exB (bgB M (R v) (R u) mir j) M = false) → ∀ l4 l5 : Option Value, ab_Ev X l i_Mod_one 132 [some (.ref 90), some (.int (nI u)), some (.int (nI v)), some (.int (b01 mir)), l4, l5] [] w3 n 0 0 Q) →
      ∀ a, a ≤ M → ∀ w3, Fr FT w2 w3 → ∀ f, w3 114 = aJ 60 f → ∀ g, w3 118 = aJ 3600 g → (∀ j, j < a → exB (bgB M (R v) (R u) mir j) M = false) → ∀ l5 : Option Value, ab_Ev X l i_Mod_one 49 [some (.ref 90), some (.int (nI u)), some (.int (nI v)), some (.int (b01 mir)), some (.int (nI a)), l5] [] w3 n 0 0 Q := by
    intro mir hmir hend
    refine ab_up M ?_ (fun a ha ih => ?_)
    · intro w3 hf f hf4 g hg hj l5
      have hend := hend w3 hf f hf4 g hg hj (some (.int (nI M))) l5
      have k90 : w3 90 = oMod s2 wd tn := hf.get hB2.1 (by omega)
      obtain ⟨w3, rfl⟩ := va_ex k90
      refine ab_sound ok_225 [132] 80 ?_
      refine And.intro (fun _ => ?_) (fun h_9 => absurd ((by rw [c1]; exact nI_le (Nat.le_refl _) (by omega))) h_9)
      exact hend
    · intro w3 hf f hf4 g hg hj l5
      have k90 : w3 90 = oMod s2 wd tn := hf.get hB2.1 (by omega)
      have k116 : w3 116 = aJ 28800 G := hf.get G1 (by omega)
      have k113 : w3 113 = aI 3600 ph := hf.get c5 (by omega)
      have go : ab_Ev X l i_Mod_one 72 [some (.ref 90), some (.int (nI u)), some (.int (nI v)), some (.int (b01 mir)), some (.int (nI a)), l5] [.int (b01 mir), .int (nI a), .int (nI u), .ref 90] w3 n 0 0 Q := by
        obtain ⟨w3, rfl⟩ := va_ex k90
        refine ab_sound ok_225 [82] 80 ?_
        (refine Exists.intro 0 ?_; refine ⟨0, _, Nat.zero_le _, Nat.zero_le _, k_turnAll _ _ _ u a M mir _ _ rfl rfl rfl hu ha hM rfl c1 c2 k113 c6 hf4 k116 hg hRu, ?_⟩; rintro _ w4 _ ⟨rfl, rfl, f5, ⟨f6, h6⟩, g6, h7, h8⟩)
        have hf4' := hf.trans f5
        have hfin := hfin w4 hf4' ⟨f6, h6⟩ ⟨g6, h7⟩
        have k90b : w4 90 = oMod s2 wd tn := f5.get rfl (by omega)
        have k116b : w4 116 = aJ 28800 G := f5.get k116 (by omega)
        have inn : ∀ m, m ≤ M → (∀ j, j < m → bgB M (R v) (R u) mir a j = false) → ab_Ev X l i_Mod_one 82 [some (.ref 90), some (.int (nI u)), some (.int (nI v)), some (.int (b01 mir)), some (.int (nI a)), some (.int (nI m))] [] w4 n 0 0 Q := by
          refine ab_up M ?_ (fun m hm ih2 => ?_)
          · intro hq
            have ih3 := ih w4 hf4' f6 h6 g6 h7 (all_s (P := fun j => exB (bgB M (R v) (R u) mir j) M) hj (exB_f hq)) (some (.int (nI M)))
            obtain ⟨w4, rfl⟩ := va_ex k90b
            refine ab_sound ok_225 [49] 80 ?_
            refine And.intro (fun _ => ?_) (fun h_9 => absurd ((by rw [c1]; exact nI_le (Nat.le_refl _) (by omega))) h_9)
            exact ab_ev_of ih3 (by rw [nI_s a]; rfl) rfl rfl
          · intro hq
            obtain ⟨w4, rfl⟩ := va_ex k90b
            refine ab_sound ok_225 [82] 80 ?_
            refine And.intro (fun h_9 => absurd h_9 ((by rw [c1]; exact nI_ge hm (by omega)))) (fun _ => ?_)
            (refine Exists.intro 0 ?_; refine ⟨0, _, Nat.zero_le _, Nat.zero_le _, k_begins _ _ v m M _ _ rfl rfl hv (by omega) hM rfl c1 c2 k116b h7, ?_⟩; refine ab_q1_elim ?_)
            rw [conv_bg (by omega) hRv h8]
            cases hc : bgB M (R v) (R u) mir a m
            · refine And.intro (fun _ => ?_) (fun h_9 => absurd (rfl) h_9)
              exact ab_ev_of (ih2 (all_s hq hc)) (by rw [nI_s m]; rfl) rfl rfl
            · refine And.intro (fun h_9 => absurd h_9 ((by decide))) (fun _ => ?_)
              have hv9 : fmV M (bgB M (R v) (R u) mir) = nI (100 * a + m) := fmV_hit ha hm hc hj hq
              subst hQ
              refine ⟨congrArg (fun q => some (Value.int q)) ?_, hfin⟩
              unfold oneV
              cases mir with
              | false =>
                rw [hv9, if_neg (nI_nn (by omega)), ← nI_add, ← pk_mul]
                show nI 10000 * nI 0 + nI 100 * nI a + nI m = _
                rw [pk_mul, show 10000 * 0 = 0 by omega, pk_mul, nI_add, Nat.zero_add]
              | true =>
                rw [if_pos (hmir rfl), hv9, if_neg (nI_nn (by omega))]
                show nI 10000 * nI 1 + nI 100 * nI a + nI m = _
                rw [pk_mul, pk_mul, nI_add, nI_add, nI_add]
                congr 1
                omega
        exact ab_ev_of (inn 0 (by omega) (fun j hj => by omega)) rfl rfl rfl
      obtain ⟨w3, rfl⟩ := va_ex k90
      refine ab_sound ok_225 [72] 80 ?_
      refine And.intro (fun h_9 => absurd h_9 ((by rw [c1]; exact nI_ge ha (by omega)))) (fun _ => ?_)
      cases mir with
      | true =>
        refine And.intro (fun h_9 => absurd (rfl) h_9) (fun _ => ?_)
        exact go
      | false =>
        refine And.intro (fun _ => ?_) (fun h_9 => absurd h_9 ((by decide)))
        exact go
  have main : ab_Ev X l i_Mod_one 41 [some (.ref 90), some (.int (nI u)), some (.int (nI v)), some (.int (nI 0)), none, none] [] w2 n 0 0 Q := by
    refine ab_sound ok_225 [49] 80 ?_
    refine And.intro (fun h_9 => absurd h_9 ((by decide))) (fun _ => ?_)
    refine lp false (fun z => by cases z) ?_ 0 (by omega) w2 Fr.refl f4 h114 f8 h118 (fun j hj => by omega) none
    intro w3 hf f hf4 g hg hj l4 l5
    refine ab_sound ok_225 [49] 80 ?_
    refine And.intro (fun h_9 => absurd h_9 ((by decide))) (fun _ => ?_)
    have hm1 := fmV_no hj
    refine ab_ev_of (lp true (fun _ => hm1) ?_ 0 (by omega) w3 hf f hf4 g hg (fun j hj => by omega) l5) rfl rfl rfl
    intro w5 hf5 f5 hf45 g5 hg5 hj5 l4 l5
    refine ab_sound ok_225 [] 80 ?_
    refine And.intro (fun _ => ?_) (fun h_9 => absurd ((by decide)) h_9)
    subst hQ
    refine ⟨congrArg (fun q => some (Value.int q)) ?_, hfin w5 hf5 ⟨f5, hf45⟩ ⟨g5, hg5⟩⟩
    unfold oneV
    rw [if_pos hm1, if_pos (fmV_no hj5)]
  obtain ⟨w2, rfl⟩ := va_ex2 d2 p1
  refine And.intro (fun h_9 => absurd h_9 ((by decide))) (fun _ => ?_)
  refine And.intro (vp_in_nI hu (by omega)) ?_
  refine And.intro (vp_in_nI hv (by omega)) ?_
  rw [nI_clamp (by omega), nI_clamp (by omega), q2u, q2v]
  refine And.intro (fun _ => ?_) (fun h_9 => absurd (rfl) h_9)
  exact main
theorem k_Mod_one_n (x y : Int32) (w : ab_W) (n : Nat) {s : Nat → Int32} {wd tn : Int64} {N : Nat → Nat} {R : Nat → Nat → Nat → Int64} (h : MB w s wd tn N R) (hb : badS N x ∨ badS N y ∨ ∃ u v, u < 8 ∧ v < 8 ∧ x = nI u ∧ y = nI v ∧ N u ≠ 0 ∧ N v ≠ 0 ∧ N u ≠ N v) :
    ab_C X l i_Mod_one [.ref 90, .int x, .int y] w n 0 0 (qI (-nI 2) (mQ w n s wd tn (nI 0) N R)) := by
  have hB0 := h.set0 (nI 0)
  obtain ⟨h0, -⟩ := h
  obtain ⟨w9, rfl⟩ := va_ex h0
  refine ab_mqI cd_225 om_225 rfl (ab_sound ok_225 [] 80 ?_)
  rcases sh_or N x with ⟨u, hu, eu, hNu⟩ | hbx
  · (refine Exists.intro 0 ?_; refine ⟨0, _, Nat.zero_le _, Nat.zero_le _, k_has_y _ u _ _ eu hu hNu hB0.1 hB0.2.1 hB0.2.2.1, ?_⟩; rintro _ w1 _ ⟨rfl, rfl, e1, s1, e2, e3, e4⟩)
    have hB1 := hB0.laid e1 e2 e4
    have f1 : Fr FM (va_up w9 90 (oMod s wd tn)) w1 := (Fr.refl.up (by omega)).trans (e1.mono (fun k hk => by omega))
    have g1 : Fr GA s s1 := (Fr.refl.us (by omega)).trans (e3.mono (fun k hk => by omega))
    have g10 : s1 0 = nI 0 := e3.get rfl (by omega)
    obtain ⟨w1, rfl⟩ := va_ex e2
    refine And.intro (fun h_9 => absurd h_9 ((by decide))) (fun _ => ?_)
    rcases sh_or N y with ⟨v, hv, ev, hNv⟩ | hby
    · (refine Exists.intro 0 ?_; refine ⟨0, _, Nat.zero_le _, Nat.zero_le _, k_has_y _ v _ _ ev hv hNv hB1.1 hB1.2.1 hB1.2.2.1, ?_⟩; rintro _ w2 _ ⟨rfl, rfl, d1, s2, d2, d3, d4⟩)
      have hB2 := hB1.laid d1 d2 d4
      have f2 := f1.trans (d1.mono (fun k hk => by omega))
      have g2 := g1.trans (d3.mono (fun k hk => by omega))
      have g20 := d3.get g10 (by omega)
      obtain ⟨pt, p1, p2⟩ := hB2.2.2.1.pts
      have hNu6 := (hB2.2.2.1.1 u hu).resolve_left hNu
      have hNv6 := (hB2.2.2.1.1 v hv).resolve_left hNv
      have hne : N u ≠ N v := by
        have nb : ∀ (x : Int32) (u : Nat), u < 8 → x = nI u → N u ≠ 0 → ¬ badS N x := by
          intro x u hu eu hNu hb
          rcases hb with hb | ⟨u2, hu2, e2, hz⟩
          · exact absurd eu (n_out (by omega) hu hb)
          · rw [eu] at e2
            have := (nI_eq (by omega) (by omega)).mp e2
            subst this
            exact absurd hz hNu
        rcases hb with hb | hb | ⟨u2, v2, hu2, hv2, eu2, ev2, -, -, hne⟩
        · exact absurd hb (nb x u hu eu hNu)
        · exact absurd hb (nb y v hv ev hNv)
        · rw [eu] at eu2
          rw [ev] at ev2
          have q1 := (nI_eq (by omega) (by omega)).mp eu2
          have q2 := (nI_eq (by omega) (by omega)).mp ev2
          subst q1 q2
          exact hne
      obtain ⟨w2, rfl⟩ := va_ex2 d2 p1
      refine And.intro (fun h_9 => absurd h_9 ((by decide))) (fun _ => ?_)
      subst eu ev
      refine And.intro (vp_in_nI hu (by omega)) ?_
      refine And.intro (vp_in_nI hv (by omega)) ?_
      rw [nI_clamp (by omega), nI_clamp (by omega), p2 u hu, p2 v hv]
      refine And.intro (fun h_9 => absurd h_9 ((fun z => hne ((nI_eq (by omega) (by omega)).mp z)))) (fun _ => ?_)
      exact ⟨rfl, rfl, f2, s2, g2, g20, hB2⟩
    · (refine Exists.intro 0 ?_; refine ⟨0, _, Nat.zero_le _, Nat.zero_le _, k_has_n _ _ _ hby hB1.1 hB1.2.2.1, ?_⟩; refine ab_q1_elim ?_)
      refine And.intro (fun _ => ?_) (fun h_9 => absurd (rfl) h_9)
      exact ⟨rfl, rfl, f1, s1, g1, g10, hB1⟩
  · (refine Exists.intro 0 ?_; refine ⟨0, _, Nat.zero_le _, Nat.zero_le _, k_has_n _ _ _ hbx hB0.1 hB0.2.2.1, ?_⟩; refine ab_q1_elim ?_)
    refine And.intro (fun _ => ?_) (fun h_9 => absurd (rfl) h_9)
    exact ⟨rfl, rfl, Fr.refl.up (by omega), upd s 0 (nI 0), Fr.refl.us (by omega), rfl, hB0⟩
end MORB2
