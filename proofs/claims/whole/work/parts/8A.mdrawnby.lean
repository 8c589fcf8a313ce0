/-! drawnBy() of the model, and both refusals -/
section MDRAWNBY
variable {X : ab_X} {l : Launch}
theorem k_isTurnedM (x : Int32) (t M : Nat) (w : ab_W) (n : Nat) {s : Nat → Int32} {wd tn : Int64} {ph : Nat → Int32} {G f g D7 : Nat → Int64} {S D : Nat → Nat → Int64} (hx : x = nI t) (ht : t < 8) (hM : 3 ≤ M ∧ M ≤ 60) (h90 : w 90 = oMod s wd tn) (c1 : s 38 = nI M) (c2 : s 39 = nI (phi M)) (c5 : w 113 = aI 3600 ph) (c6 : PowIs M ph) (h114 : w 114 = aJ 60 f) (h116 : w 116 = aJ 28800 G) (h117 : w 117 = aJ 3600 D7) (h118 : w 118 = aJ 3600 g) (hG : SmR M (rowsOf G (3600 * t)) S) (hD : Rm M D7 D) :
    ab_C X l i_Mod_isTurned [.ref 90, .int x] w n 0 0 (qI (b01 (dnB M S D)) fun w' n' => n = n' ∧ Fr FT w w' ∧ (∃ f, w' 114 = aJ 60 f) ∧ ∃ g, w' 118 = aJ 3600 g) := by
  subst hx
  refine ab_mqI cd_240 om_240 rfl (ab_sound ok_240 [2] 50 ?_)
  generalize hQ : (qI (b01 (dnB M S D)) fun w' n' => n = n' ∧ Fr FT w w' ∧ (∃ f, w' 114 = aJ 60 f) ∧ ∃ g, w' 118 = aJ 3600 g) = Q
  have loop : ∀ u, u ≤ M → ∀ w3 f g, Fr FT w w3 → w3 114 = aJ 60 f → w3 118 = aJ 3600 g → (∀ j, j < u → exB (bgB M S D false j) M = false) → ∀ l3 : Option Value, ab_Ev X l i_Mod_isTurned 2 [some (.ref 90), some (.int (nI t)), some (.int (nI u)), l3] [] w3 n 0 0 Q := by
    refine ab_up M ?_ (fun u hu ih => ?_)
    · intro w3 f g hf h4 h8 hno l3
      have k90 : w3 90 = oMod s wd tn := hf.get h90 (by omega)
      obtain ⟨w3, rfl⟩ := va_ex k90
      refine ab_sound ok_240 [2] 50 ?_
      refine And.intro (fun _ => ?_) (fun h_9 => absurd ((by rw [c1]; exact nI_le (Nat.le_refl _) (by omega))) h_9)
      subst hQ
      have e : dnB M S D = false := exB_f hno
      rw [e]
      exact ⟨rfl, rfl, rfl, hf, ⟨f, h4⟩, g, h8⟩
    · intro w3 f g hf h4 h8 hno l3
      have search : ∀ m, m ≤ M → ∀ w4 f g, Fr FT w w4 → w4 114 = aJ 60 f → w4 118 = aJ 3600 g → Rm M g (fun k => tm M false u (D k)) → (∀ j, j < m → bgB M S D false u j = false) → ab_Ev X l i_Mod_isTurned 59 [some (.ref 90), some (.int (nI t)), some (.int (nI u)), some (.int (nI m))] [] w4 n 0 0 Q := by
        refine ab_up M ?_ (fun m hm jh => ?_)
        · intro w4 f g hf h4 h8 hr hno2
          have k90 : w4 90 = oMod s wd tn := hf.get h90 (by omega)
          have ih2 := ih w4 f g hf h4 h8 (all_s hno (exB_f hno2)) (some (.int (nI M)))
          obtain ⟨w4, rfl⟩ := va_ex k90
          refine ab_sound ok_240 [2] 50 ?_
          refine And.intro (fun _ => ?_) (fun h_9 => absurd ((by rw [c1]; exact nI_le (Nat.le_refl _) (by omega))) h_9)
          exact ab_ev_of ih2 (by rw [nI_s u]; rfl) rfl rfl
        · intro w4 f g hf h4 h8 hr hno2
          have k90 : w4 90 = oMod s wd tn := hf.get h90 (by omega)
          have k116 : w4 116 = aJ 28800 G := hf.get h116 (by omega)
          have jh2 := jh w4 f g hf h4 h8 hr
          obtain ⟨w4, rfl⟩ := va_ex k90
          refine ab_sound ok_240 [59] 50 ?_
          refine And.intro (fun h_9 => absurd h_9 ((by rw [c1]; exact nI_ge hm (by omega)))) (fun _ => ?_)
          (refine Exists.intro 0 ?_; refine ⟨0, _, Nat.zero_le _, Nat.zero_le _, k_begins _ _ t m M _ _ rfl rfl ht (by omega) hM rfl c1 c2 k116 h8, ?_⟩; refine ab_q1_elim ?_)
          rw [conv_bg (by omega) hG hr]
          cases hb : bgB M S D false u m with
          | true =>
            refine And.intro (fun h_9 => absurd h_9 ((by decide))) (fun _ => ?_)
            subst hQ
            have e : dnB M S D = true := exB_t hu (exB_t hm hb)
            rw [e]
            exact ⟨rfl, rfl, rfl, hf, ⟨f, h4⟩, g, h8⟩
          | false =>
            refine And.intro (fun _ => ?_) (fun h_9 => absurd (rfl) h_9)
            exact ab_ev_of (jh2 (all_s hno2 hb)) (by rw [nI_s m]; rfl) rfl rfl
      have turn : ∀ k, k ≤ M → ∀ w4 f g, Fr FT w w4 → w4 114 = aJ 60 f → w4 118 = aJ 3600 g → (∀ j i, j < k → i < phi M → g (60 * j + i) = tm M false u (D j) i) → ab_Ev X l i_Mod_isTurned 12 [some (.ref 90), some (.int (nI t)), some (.int (nI u)), some (.int (nI k))] [] w4 n 0 0 Q := by
        refine ab_up M ?_ (fun k hk jh => ?_)
        · intro w4 f g hf h4 h8 hr
          have k90 : w4 90 = oMod s wd tn := hf.get h90 (by omega)
          have s0 := search 0 (by omega) w4 f g hf h4 h8 hr (fun j hj => by omega)
          obtain ⟨w4, rfl⟩ := va_ex k90
          refine ab_sound ok_240 [59] 50 ?_
          refine And.intro (fun _ => ?_) (fun h_9 => absurd ((by rw [c1]; exact nI_le (Nat.le_refl _) (by omega))) h_9)
          exact ab_ev_of s0 rfl rfl rfl
        · intro w4 f g hf h4 h8 hr
          have k90 : w4 90 = oMod s wd tn := hf.get h90 (by omega)
          have k117 : w4 117 = aJ 3600 D7 := hf.get h117 (by omega)
          have k113 : w4 113 = aI 3600 ph := hf.get c5 (by omega)
          obtain ⟨w4, rfl⟩ := va_ex k90
          refine ab_sound ok_240 [12] 80 ?_
          refine And.intro (fun h_9 => absurd h_9 ((by rw [c1]; exact nI_ge hk (by omega)))) (fun _ => ?_)
          (refine Exists.intro 0 ?_; refine ⟨0, _, Nat.zero_le _, Nat.zero_le _, c_Mod_clear _ _ rfl h4, ?_⟩; refine ab_q1_elim ?_)
          (refine Exists.intro 0 ?_; refine ⟨0, _, Nat.zero_le _, Nat.zero_le _, c_Mod_gather_117 _ _ _ _ M (60 * k) 3600 u _ _ false rfl (pk_mul 60 k) rfl hM.2 hM.1 hu (by omega) (by omega) c1 c2 rfl va_us k117, ?_⟩; refine ab_q1_elim ?_)
          (refine Exists.intro 0 ?_; refine ⟨0, _, Nat.zero_le _, Nat.zero_le _, c_Mod_write_118 _ M (60 * k) 3600 _ _ (pk_mul 60 k) hM.2 hM.1 (by omega) (by omega) c1 c2 rfl k113 c6 va_us h8, ?_⟩; refine ab_q1_elim ?_)
          refine ab_ev_of (jh _ _ _ (((hf.up (k := 114) (by omega)).up (k := 114) (by omega)).up (k := 118) (by omega)) ((va_un (by omega)).trans va_us) va_us (wr_rows hM hr ?_)) (by rw [nI_s k]; rfl) rfl rfl
          intro i hi
          have e1 := e60_red hM.2 (e60_ga (ix := fun i => if false = true then (u + M - i) % M else (u + i) % M) (v := fun i => lN 1 * D7 (60 * k + i)) (ix2 := fun i => if false = true then (u + M - i) % M else (u + i) % M) (v2 := D k) (e60_zb f) (phi M) (fun j hj => ⟨by show (if false = true then (u + M - j) % M else (u + j) % M) < 60; split <;> exact Nat.lt_of_lt_of_le (Nat.mod_lt _ (by omega)) hM.2, rfl, by
            have := hD k j hk hj
            show lN 1 * D7 (60 * k + j) = _
            rw [this, show lN 1 = 1 from rfl, Int64.one_mul]⟩)) i
          exact e1.trans (tv_red hM.2 hM.1 u (D k) i)
      have k90 : w3 90 = oMod s wd tn := hf.get h90 (by omega)
      have t0 := turn 0 (by omega) w3 f g hf h4 h8 (fun j i hj => by omega)
      obtain ⟨w3, rfl⟩ := va_ex k90
      refine ab_sound ok_240 [12] 50 ?_
      refine And.intro (fun h_9 => absurd h_9 ((by rw [c1]; exact nI_ge hu (by omega)))) (fun _ => ?_)
      exact ab_ev_of t0 rfl rfl rfl
  exact ab_ev_of (loop 0 (by omega) w f g Fr.refl h114 h118 (fun j hj => by omega) none) rfl rfl rfl
theorem k_Mod_drawnBy (x : Int32) (t : Nat) (w : ab_W) (n : Nat) {s : Nat → Int32} {wd tn : Int64} {N : Nat → Nat} {R : Nat → Nat → Nat → Int64} {K : KA} {nr nw np : Nat} (hx : x = nI t) (ht : t < 8) (hN : N t ≠ 0) (hK : KAok K nw np) (hB : MB w s wd tn N R) (hC : MKit w K nr nw np) (hA : MA w) :
    ab_C X l i_Mod_drawnBy [.ref 90, .int x] w n 0 0 (qI (dbV (fun p => dnB (N t) (R t) (DrV K p (N t))) np) fun w' n' => n = n' ∧ Fr (fun k => FM k ∨ FZ k) w w' ∧ MA w' ∧ ∃ s' tn', Fr (fun k => GA k ∨ k = 33) s s' ∧ s' 0 = nI 0 ∧ MB w' s' wd tn' N R) := by
  subst hx
  have h8 := hK.1.2
  have hB0 := hB.set0 (nI 0)
  have hC0 := hC.up90 (c := oMod (upd s 0 (nI 0)) wd tn)
  have hA0 := hA.up90 (c := oMod (upd s 0 (nI 0)) wd tn)
  obtain ⟨h0, -⟩ := hB
  obtain ⟨w9, rfl⟩ := va_ex h0
  refine ab_mqI cd_239 om_239 rfl (ab_sound ok_239 [19] 80 ?_)
  (refine Exists.intro 0 ?_; refine ⟨0, _, Nat.zero_le _, Nat.zero_le _, k_has_y _ t _ _ rfl ht hN hB0.1 hB0.2.1 hB0.2.2.1, ?_⟩; rintro _ w1 _ ⟨rfl, rfl, e1, s1, e2, e3, e4⟩)
  have hB1 := hB0.laid e1 e2 e4
  have hC1 := hC0.fr e1 (fun k hk => by omega)
  have hA1 := hA0.fr e1 (fun k hk => by omega)
  have f1 : Fr (fun k => FM k ∨ FZ k) (va_up w9 90 (oMod s wd tn)) w1 := (Fr.refl.up (by omega)).trans (e1.mono (fun k hk => by omega))
  have g1 : Fr (fun k => GA k ∨ k = 33) s s1 := (Fr.refl.us (by omega)).trans (e3.mono (fun k hk => by omega))
  have g10 : s1 0 = nI 0 := e3.get rfl (by omega)
  generalize hMe : N t = M at *
  generalize hQ : (qI (dbV (fun p => dnB M (R t) (DrV K p M)) np) fun w' n' => n = n' ∧ Fr (fun k => FM k ∨ FZ k) (va_up w9 90 (oMod s wd tn)) w' ∧ MA w' ∧ ∃ s' tn', Fr (fun k => GA k ∨ k = 33) s s' ∧ s' 0 = nI 0 ∧ MB w' s' wd tn' N R) = Q
  have loop : ∀ i, i ≤ np → ∀ w3 s3 tn3, Fr (fun k => FM k ∨ FZ k) (va_up w9 90 (oMod s wd tn)) w3 → MB w3 s3 wd tn3 N R → MN w3 s3 M → MKit w3 K nr nw np → MA w3 → Fr (fun k => GA k ∨ k = 33) s s3 → s3 0 = nI 0 → ab_Ev X l i_Mod_drawnBy 19 [some (.ref 90), some (.int (nI t)), some (.int (dbV (fun p => dnB M (R t) (DrV K p M)) i)), some (.int (nI i))] [] w3 n 0 0 Q := by
    refine ab_up np ?_ (fun i hi ih => ?_)
    · intro w3 s3 tn3 hf hB3 hN3 hC3 hA3 hs hs0
      obtain ⟨-, -, ⟨f95, h95, g95⟩, -⟩ := id hC3
      obtain ⟨w3, rfl⟩ := va_ex2 hB3.1 h95
      refine ab_sound ok_239 [19] 80 ?_
      refine And.intro (vp_in_nI (by omega) (by omega)) ?_
      refine And.intro (fun _ => ?_) (fun h_9 => absurd ((by show f95 0 ≤ nI np; rw [g95]; exact nI_le (Nat.le_refl _) (by omega))) h_9)
      subst hQ
      exact ⟨rfl, rfl, hf, hA3, s3, tn3, hs, hs0, hB3⟩
    · intro w3 s3 tn3 hf hB3 hN3 hC3 hA3 hs hs0
      obtain ⟨-, -, ⟨f95, h95, g95⟩, -⟩ := id hC3
      obtain ⟨w3, rfl⟩ := va_ex2 hB3.1 h95
      refine ab_sound ok_239 [19] 80 ?_
      refine And.intro (vp_in_nI (by omega) (by omega)) ?_
      refine And.intro (fun h_9 => absurd h_9 ((by show ¬ f95 0 ≤ nI i; rw [g95]; exact nI_ge hi (by omega)))) (fun _ => ?_)
      (refine Exists.intro 0 ?_; refine ⟨0, _, Nat.zero_le _, Nat.zero_le _, k_drawPen _ i M _ _ rfl hi hK hB3 hN3 hC3 hA3, ?_⟩; rintro _ w4 _ ⟨rfl, rfl, f4, hB4, hN4, hA4, g, h117, hr⟩)
      have hC4 := hC3.fr f4 (fun k hk => by omega)
      obtain ⟨hM, ⟨c1, c2⟩, pf, pg, ph, c3, c4, c5, c6⟩ := id hN4
      obtain ⟨G, G1, G2⟩ := hB4.2.2.1.rows
      have hG := G2 t ht
      rw [hMe] at hG
      obtain ⟨f14, h114⟩ := hB4.2.2.2.1
      obtain ⟨f18, h118⟩ := hB4.2.2.2.2.2
      obtain ⟨w4, rfl⟩ := va_ex hB4.1
      (refine Exists.intro 0 ?_; refine ⟨0, _, Nat.zero_le _, Nat.zero_le _, k_isTurnedM _ t M _ _ rfl ht hM rfl c1 c2 c5 c6 h114 G1 h117 h118 hG hr, ?_⟩; rintro _ w5 _ ⟨rfl, rfl, f5, q4, q8⟩)
      have hB5 : MB w5 (upd s3 33 (nI (PnL K i).length)) wd (lN (PnT K i)) N R := hB4.wr f5 (fun k hk => by omega) q4 ⟨g, f5.get h117 (by omega)⟩ q8
      have hN5 := hN4.fr f5 (Fr.refl (F := fun _ => False)) (by omega) (by omega) (by omega) (fun z => z) (fun z => z)
      have hC5 := hC4.fr f5 (fun k hk => by omega)
      have hA5 := hA4.fr f5 (fun k hk => by omega)
      have ff := (hf.trans (f4.mono (G := fun k => FM k ∨ FZ k) (fun k hk => by omega))).trans (f5.mono (G := fun k => FM k ∨ FZ k) (fun k hk => by omega))
      have ih2 := ih w5 _ _ ff hB5 hN5 hC5 hA5 (hs.us (by omega)) ((upd_ne (by omega)).trans hs0)
      obtain ⟨w5, rfl⟩ := va_ex hB5.1
      cases hb : dnB M (R t) (DrV K i M) with
      | true =>
        rw [dbV_t (P := fun p => dnB M (R t) (DrV K p M)) hb] at ih2
        refine And.intro (fun h_9 => absurd h_9 ((by decide))) (fun _ => ?_)
        exact ab_ev_of ih2 (by rw [nI_s i]; rfl) rfl rfl
      | false =>
        rw [dbV_f (P := fun p => dnB M (R t) (DrV K p M)) hb] at ih2
        refine And.intro (fun _ => ?_) (fun h_9 => absurd (rfl) h_9)
        exact ab_ev_of ih2 (by rw [nI_s i]; rfl) rfl rfl
  obtain ⟨w1, rfl⟩ := va_ex e2
  refine And.intro (fun _ => ?_) (fun h_9 => absurd h_9 ((by decide)))
  exact ab_ev_of (loop 0 (by omega) _ s1 tn f1 hB1 e4 hC1 hA1 g1 g10) rfl rfl rfl
theorem k_Mod_drawnBy_n (x : Int32) (w : ab_W) (n : Nat) {s : Nat → Int32} {wd tn : Int64} {N : Nat → Nat} {R : Nat → Nat → Nat → Int64} (hx : badS N x) (hB : MB w s wd tn N R) :
    ab_C X l i_Mod_drawnBy [.ref 90, .int x] w n 0 0 (ab_q1 (some (.int (-nI 1))) (va_up w 90 (oMod (upd s 0 (nI 0)) wd tn)) n) := by
  have hB0 := hB.set0 (nI 0)
  obtain ⟨h0, -⟩ := hB
  obtain ⟨w9, rfl⟩ := va_ex h0
  refine ab_metI cd_239 om_239 rfl (ab_sound ok_239 [] 80 ?_)
  (refine Exists.intro 0 ?_; refine ⟨0, _, Nat.zero_le _, Nat.zero_le _, k_has_n _ _ _ hx hB0.1 hB0.2.2.1, ?_⟩; refine ab_q1_elim ?_)
  refine And.intro (fun h_9 => absurd (rfl) h_9) (fun _ => ?_)
  exact ⟨rfl, rfl, rfl⟩
theorem k_WP_drawnBy_n (x : Int32) (w : ab_W) (n : Nat) {N : Nat → Nat} {R : Nat → Nat → Nat → Int64} {kn ks : Nat} {lf : Int32} (hx : badS N x) (h : KB w n kn ks lf N R) :
    ab_C X l i_WP_drawnBy [.ref 0, .int x] w n 0 0 (ab_q1 (some (.int (-nI 1))) w n) := by
  obtain ⟨h0, -, hS, -⟩ := h
  obtain ⟨w, rfl⟩ := va_ex h0
  refine ab_metI cd_139 om_139 rfl (ab_sound ok_139 [] 80 ?_)
  (refine Exists.intro 0 ?_; refine ⟨0, _, Nat.zero_le _, Nat.zero_le _, k_sheetThatIs_n _ _ _ hx h0 hS, ?_⟩; refine ab_q1_elim ?_)
  exact ⟨rfl, rfl, rfl⟩
end MDRAWNBY
