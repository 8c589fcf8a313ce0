/-! back() and right() of the model -/
theorem upd_upd {f : Nat → Int32} {i : Nat} {x y : Int32} : upd (upd f i x) i y = upd f i y := by
  funext j
  unfold upd
  split <;> rfl
theorem nar_b01 (b : Bool) : vp_nar .boolean (b01 b) = b01 b := by cases b <;> rfl
section MTOLD
variable {X : ab_X} {l : Launch}
theorem k_layArms (x : Int32) (t M : Nat) (w : ab_W) (n : Nat) {s : Nat → Int32} {wd tn : Int64} {ph : Nat → Int32} {G f g : Nat → Int64} {R : Nat → Nat → Int64} (hx : x = nI t) (ht : t < 8) (hM : 3 ≤ M ∧ M ≤ 60) (h90 : w 90 = oMod s wd tn) (c1 : s 38 = nI M) (c2 : s 39 = nI (phi M)) (c5 : w 113 = aI 3600 ph) (c6 : PowIs M ph) (h114 : w 114 = aJ 60 f) (h116 : w 116 = aJ 28800 G) (h118 : w 118 = aJ 3600 g) (hr : SmR M (rowsOf G (3600 * t)) R) :
    ab_C X l i_Mod_layArms [.ref 90, .int x] w n 0 0 (qV fun w' n' => n = n' ∧ Fr FT w w' ∧ (∃ f, w' 114 = aJ 60 f) ∧ ∃ g, w' 118 = aJ 3600 g ∧ Rm M g (TBv M R)) := by
  subst hx
  have hp := phi_le M hM.2
  refine ab_mqV cd_231 om_231 rfl rfl (ab_sound ok_231 [2] 50 ?_)
  have loop : ∀ k, k ≤ M → ∀ w3, Fr FT w w3 → ∀ f, w3 114 = aJ 60 f → ∀ g, w3 118 = aJ 3600 g → (∀ j i, j < k → i < phi M → g (60 * j + i) = TBv M R j i) → ∀ l3 : Option Value, ab_Ev X l i_Mod_layArms 2 [some (.ref 90), some (.int (nI t)), some (.int (nI k)), l3] [] w3 n 0 0 (qV fun w' n' => n = n' ∧ Fr FT w w' ∧ (∃ f, w' 114 = aJ 60 f) ∧ ∃ g, w' 118 = aJ 3600 g ∧ Rm M g (TBv M R)) := by
    refine ab_up M ?_ (fun k hk ih => ?_)
    · intro w3 hf f hf4 g hg hr3 l3
      have k90 : w3 90 = oMod s wd tn := hf.get h90 (by omega)
      obtain ⟨w3, rfl⟩ := va_ex k90
      refine ab_sound ok_231 [2] 50 ?_
      refine And.intro (fun _ => ?_) (fun h_9 => absurd ((by rw [c1]; exact nI_le (Nat.le_refl _) (by omega))) h_9)
      exact ⟨rfl, rfl, hf, ⟨f, hf4⟩, g, hg, hr3⟩
    · intro w3 hf f hf4 g hg hr3 l3
      have k90 : w3 90 = oMod s wd tn := hf.get h90 (by omega)
      have k116 : w3 116 = aJ 28800 G := hf.get h116 (by omega)
      have k113 : w3 113 = aI 3600 ph := hf.get c5 (by omega)
      obtain ⟨w3, rfl⟩ := va_ex2 k90 hf4
      refine ab_sound ok_231 [2, 16] 80 ?_
      refine And.intro (fun h_9 => absurd h_9 ((by rw [c1]; exact nI_ge hk (by omega)))) (fun _ => ?_)
      (refine Exists.intro 0 ?_; refine ⟨0, _, Nat.zero_le _, Nat.zero_le _, c_Mod_clear _ _ rfl rfl, ?_⟩; refine ab_q1_elim ?_)
      have hW : ∀ F, va_up (va_up (va_up w3 114 (aJ 60 f)) 90 (oMod s wd tn)) 114 (aJ 60 F) = va_up (va_up w3 90 (oMod s wd tn)) 114 (aJ 60 F) := fun F => by
        rw [va_u2 (show (90 : Nat) ≠ 114 by omega), va_uu, va_u2 (show (114 : Nat) ≠ 90 by omega)]
      rw [hW]
      have inn : ∀ j, j ≤ M → ab_Ev X l i_Mod_layArms 16 [some (.ref 90), some (.int (nI t)), some (.int (nI k)), some (.int (nI j))] [] (va_up (va_up w3 90 (oMod s wd tn)) 114 (aJ 60 (tbF M R k j (zb 60 f)))) n 0 0 (qV fun w' n' => n = n' ∧ Fr FT w w' ∧ (∃ f, w' 114 = aJ 60 f) ∧ ∃ g, w' 118 = aJ 3600 g ∧ Rm M g (TBv M R)) := by
        have f9 : ∀ F, Fr FT w (va_up (va_up w3 90 (oMod s wd tn)) 114 (aJ 60 F)) := fun F => by
          rw [← hW]
          exact hf.up (by omega)
        have q116 : ∀ F, (va_up (va_up w3 90 (oMod s wd tn)) 114 (aJ 60 F)) 116 = aJ 28800 G := fun F => (f9 F).get h116 (by omega)
        have q113 : ∀ F, (va_up (va_up w3 90 (oMod s wd tn)) 114 (aJ 60 F)) 113 = aI 3600 ph := fun F => (f9 F).get c5 (by omega)
        have q118 : ∀ F, (va_up (va_up w3 90 (oMod s wd tn)) 114 (aJ 60 F)) 118 = aJ 3600 g := fun F => by
          have : (va_up (va_up w3 114 (aJ 60 f)) 90 (oMod s wd tn)) 118 = aJ 3600 g := hg
          rw [va_un (by omega), va_un (by omega)] at this ⊢
          exact this
        refine ab_up M ?_ (fun j hj ih2 => ?_)
        · refine ab_sound ok_231 [2, 16] 80 ?_
          refine And.intro (fun _ => ?_) (fun h_9 => absurd ((by rw [c1]; exact nI_le (Nat.le_refl _) (by omega))) h_9)
          (refine Exists.intro 0 ?_; refine ⟨0, _, Nat.zero_le _, Nat.zero_le _, c_Mod_write_118 _ M (60 * k) 3600 _ _ (pk_mul 60 k) hM.2 hM.1 (by omega) (by omega) c1 c2 rfl (q113 _) c6 rfl (q118 _), ?_⟩; refine ab_q1_elim ?_)
          refine ab_ev_of (ih _ ((f9 _).up (by omega)) _ ((va_un (by omega)).trans va_us) _ va_us (wr_rows hM hr3 ?_) (some (.int (nI M)))) (by rw [nI_s k]; rfl) rfl rfl
          intro i hi
          exact e60_red hM.2 (e60_tb hM R k (e60_zb f) M) i
        · refine ab_sound ok_231 [2, 16] 80 ?_
          refine And.intro (fun h_9 => absurd h_9 ((by rw [c1]; exact nI_ge hj (by omega)))) (fun _ => ?_)
          (refine Exists.intro 0 ?_; refine ⟨0, _, Nat.zero_le _, Nat.zero_le _, c_Mod_at _ _ t j _ _ rfl rfl, ?_⟩; refine ab_q1_elim ?_)
          (refine Exists.intro 0 ?_; refine ⟨0, _, Nat.zero_le _, Nat.zero_le _, c_Mod_by _ M (by omega) (by omega) _ _ rfl c1, ?_⟩; refine ab_q1_elim ?_)
          rw [show md (-(nI k) * nI j).toInt64.toInt M = emk M k j by rw [Int32.toInt_toInt64, neg_mulI k j (fk_lt hM.2 hk hj)]; rfl]
          have hlt : emk M k j < M := md_lt _ (by omega)
          (refine Exists.intro 0 ?_; refine ⟨0, _, Nat.zero_le _, Nat.zero_le _, c_Mod_gather_116 _ _ _ _ M (3600 * t + 60 * j) 28800 (emk M k j) _ _ false rfl rfl rfl hM.2 hM.1 hlt (by omega) (by omega) c1 c2 rfl rfl (q116 _), ?_⟩; refine ab_q1_elim ?_)
          rw [va_uu]
          refine ab_ev_of ih2 (by rw [nI_s j]; rfl) rfl ?_
          refine congrArg (fun z => va_up _ 114 (aJ 60 z)) ?_
          show _ = gaF (fun i => (emk M k j + i) % M) (R j) (phi M) (tbF M R k j (zb 60 f))
          refine gaF_congr _ _ (fun i hi => ⟨rfl, ?_⟩)
          have := hr j i hj hi
          unfold rowsOf at this
          show lN 1 * G (3600 * t + 60 * j + i) = _
          rw [this, show lN 1 = 1 from rfl, Int64.one_mul]
      exact ab_ev_of (inn 0 (by omega)) rfl rfl rfl
  exact ab_ev_of (loop 0 (by omega) w Fr.refl f h114 g h118 (fun j i hj => by omega) none) rfl rfl rfl
theorem c_Mod_isPlain (x : Int32) (f M : Nat) (w : ab_W) (n : Nat) {A : Nat → Nat → Int64} {s : Nat → Int32} {wd tn : Int64} {g : Nat → Int64} (hx : x = nI f) (hf : f < M) (hM : 3 ≤ M ∧ M ≤ 60) (h90 : w 90 = oMod s wd tn) (c1 : s 38 = nI M) (c2 : s 39 = nI (phi M)) (h118 : w 118 = aJ 3600 g) (hg : Rm M g A) :
    ab_C X l i_Mod_isPlain [.ref 90, .int x] w n 0 0 (ab_q1 (some (.int (b01 (plB M (A f))))) w n) := by
  subst hx
  have hp := phi_le M hM.2
  have hp1 := phi_ge M hM.2 hM.1
  have hg0 := hg f 0 hf (by omega)
  rw [Nat.add_zero] at hg0
  obtain ⟨w, rfl⟩ := va_ex2 h90 h118
  refine ab_metI cd_233 om_233 rfl (ab_sound ok_233 [2] 80 ?_)
  have loop : ∀ i, i ≤ phi M → (∀ j, j < i → 1 ≤ j → A f j = 0) → 1 ≤ i → ab_Ev X l i_Mod_isPlain 2 [some (.ref 90), some (.int (nI f)), some (.int (nI i))] [] (va_up (va_up w 118 (aJ 3600 g)) 90 (oMod s wd tn)) n 0 0 (ab_q1 (some (.int (b01 (plB M (A f))))) (va_up (va_up w 118 (aJ 3600 g)) 90 (oMod s wd tn)) n) := by
    refine ab_up (phi M) ?_ (fun i hi ih => ?_)
    · intro hj _
      refine ab_sound ok_233 [2] 80 ?_
      refine And.intro (fun _ => ?_) (fun h_9 => absurd ((by rw [c2]; exact nI_le (Nat.le_refl _) (by omega))) h_9)
      refine And.intro ((by rw [pk_mul]; exact vp_in_nI (by omega) (by omega))) ?_
      refine And.intro ((by rw [c1]; exact lNn0 (by omega) (by omega))) ?_
      rw [pk_mul, nI_clamp (by omega), hg0, c1, nI_l (by omega)]
      have e : whB (phi M) (A f) = true := decide_eq_true hj
      unfold plB
      rw [e, Bool.true_and]
      refine And.intro (fun hc => ?_) (fun hc => ?_)
      · rw [show decide (remL (A f 0) M = 0) = false from decide_eq_false (fun z => hc (lz_eq.mpr z))]
        exact ⟨rfl, rfl, rfl, rfl⟩
      · rw [show decide (remL (A f 0) M = 0) = true from decide_eq_true (lz_eq.mp hc)]
        exact ⟨rfl, rfl, rfl, rfl⟩
    · intro hj h1
      refine ab_sound ok_233 [2] 80 ?_
      refine And.intro (fun h_9 => absurd h_9 ((by rw [c2]; exact nI_ge hi (by omega)))) (fun _ => ?_)
      refine And.intro ((by rw [pk_mul, nI_add]; exact vp_in_nI (by omega) (by omega))) ?_
      rw [pk_mul, nI_add, nI_clamp (by omega), hg f i hf hi]
      refine And.intro (fun hc => ?_) (fun hc => ?_)
      · rw [lz_eq] at hc
        refine ab_ev_of (ih (fun j hj2 h3 => ?_) (by omega)) (by rw [nI_s i]; rfl) rfl rfl
        by_cases e : j = i
        · rw [e]; exact hc
        · exact hj j (by omega) h3
      · rw [lz_eq] at hc
        have e : whB (phi M) (A f) = false := decide_eq_false (fun z => hc (z i hi h1))
        unfold plB
        rw [e, Bool.false_and]
        exact ⟨rfl, rfl, rfl, rfl⟩
  exact loop 1 (by omega) (fun j hj h1 => by omega) (by omega)
theorem no_th {M : Nat} {g : Nat → Int64} {A : Nat → Nat → Int64} (hg : Rm M g A) {f : Nat} (hf : f < M) : lkB (phi M) (fun i => g (60 * f + i)) (fun _ => 0) = !thB M (A f) := by
  unfold thB
  rw [Bool.not_not]
  exact lkB_c (fun i hi => hg f i hf hi) Lk.refl
theorem k_Mod_back_n (x : Int32) (w : ab_W) (n : Nat) {s : Nat → Int32} {wd tn : Int64} {N : Nat → Nat} {R : Nat → Nat → Nat → Int64} (hx : badS N x) (h : MB w s wd tn N R) : ab_C X l i_Mod_back [.ref 90, .int x] w n 0 0 (qI (-nI 1) (mQ w n s wd tn (nI 0) N R)) := by
  have hB0 := h.set0 (nI 0)
  obtain ⟨h0, -⟩ := h
  obtain ⟨w9, rfl⟩ := va_ex h0
  refine ab_mqI cd_230 om_230 rfl (ab_sound ok_230 [27] 80 ?_)
  (refine Exists.intro 0 ?_; refine ⟨0, _, Nat.zero_le _, Nat.zero_le _, k_has_n _ _ _ hx hB0.1 hB0.2.2.1, ?_⟩; refine ab_q1_elim ?_)
  refine And.intro (fun h_9 => absurd (rfl) h_9) (fun _ => ?_)
  exact ⟨rfl, rfl, Fr.refl.up (by omega), upd s 0 (nI 0), Fr.refl.us (by omega), rfl, hB0⟩
theorem k_Mod_right_n (x : Int32) (w : ab_W) (n : Nat) {s : Nat → Int32} {wd tn : Int64} {N : Nat → Nat} {R : Nat → Nat → Nat → Int64} (hx : badS N x) (h : MB w s wd tn N R) : ab_C X l i_Mod_right [.ref 90, .int x] w n 0 0 (qI (-nI 1) (mQ w n s wd tn (nI 0) N R)) := by
  have hB0 := h.set0 (nI 0)
  obtain ⟨h0, -⟩ := h
  obtain ⟨w9, rfl⟩ := va_ex h0
  refine ab_mqI cd_235 om_235 rfl (ab_sound ok_235 [24] 80 ?_)
  (refine Exists.intro 0 ?_; refine ⟨0, _, Nat.zero_le _, Nat.zero_le _, k_has_n _ _ _ hx hB0.1 hB0.2.2.1, ?_⟩; refine ab_q1_elim ?_)
  refine And.intro (fun h_9 => absurd (rfl) h_9) (fun _ => ?_)
  exact ⟨rfl, rfl, Fr.refl.up (by omega), upd s 0 (nI 0), Fr.refl.us (by omega), rfl, hB0⟩
abbrev FX (k : Nat) : Prop := k = 90 ∨ k = 114 ∨ k = 118 ∨ (126 ≤ k ∧ k ≤ 128)
theorem k_Mod_back (x : Int32) (t : Nat) (w : ab_W) (n : Nat) {s : Nat → Int32} {wd tn : Int64} {N : Nat → Nat} {R : Nat → Nat → Nat → Int64} {arm pl : Nat → Int32} {sp : Nat → Int64} (hx : x = nI t) (ht : t < 8) (hN : N t ≠ 0) (h : MB w s wd tn N R) (h126 : w 126 = aI 60 arm) (h127 : w 127 = aJ 60 sp) (h128 : w 128 = aZ 60 pl) :
    ab_C X l i_Mod_back [.ref 90, .int x] w n 0 0 (qI (nI (cnt (fun f => thB (N t) (TBv (N t) (R t) f)) (N t))) fun w' n' => n = n' ∧ Fr (fun k => FM k ∨ (126 ≤ k ∧ k ≤ 128)) w w' ∧ ∃ s', Fr (fun k => GA k ∨ k = 57) s s' ∧ s' 0 = nI 0 ∧ s' 57 = nI (cnt (fun f => thB (N t) (TBv (N t) (R t) f)) (N t)) ∧ MB w' s' wd tn N R ∧ ∃ arm' sp' pl', w' 126 = aI 60 arm' ∧ w' 127 = aJ 60 sp' ∧ w' 128 = aZ 60 pl' ∧ KeptIs (N t) (TBv (N t) (R t)) (N t) arm' sp' pl') := by
  subst hx
  have hB0 := h.set0 (nI 0)
  obtain ⟨h0, -⟩ := h
  obtain ⟨w9, rfl⟩ := va_ex h0
  refine ab_mqI cd_230 om_230 rfl (ab_sound ok_230 [27] 80 ?_)
  (refine Exists.intro 0 ?_; refine ⟨0, _, Nat.zero_le _, Nat.zero_le _, k_has_y _ t _ _ rfl ht hN hB0.1 hB0.2.1 hB0.2.2.1, ?_⟩; rintro _ w1 _ ⟨rfl, rfl, e1, s1, e2, e3, e4⟩)
  have hB1 := hB0.laid e1 e2 e4
  have f1 : Fr FM (va_up w9 90 (oMod s wd tn)) w1 := (Fr.refl.up (by omega)).trans (e1.mono (fun k hk => by omega))
  have g1 : Fr GA s s1 := (Fr.refl.us (by omega)).trans (e3.mono (fun k hk => by omega))
  have g10 : s1 0 = nI 0 := e3.get rfl (by omega)
  obtain ⟨hM, ⟨c1, c2⟩, pf, pg, ph, c3, c4, c5, c6⟩ := id e4
  have hp := phi_le _ hM.2
  obtain ⟨G, G1, G2⟩ := hB1.2.2.1.rows
  have hR := G2 t ht
  obtain ⟨f4, h114⟩ := hB1.2.2.2.1
  obtain ⟨f7, h117⟩ := hB1.2.2.2.2.1
  obtain ⟨f8, h118⟩ := hB1.2.2.2.2.2
  have j126 := f1.get h126 (by omega)
  have j127 := f1.get h127 (by omega)
  have j128 := f1.get h128 (by omega)
  generalize hMe : N t = M at *
  obtain ⟨w1, rfl⟩ := va_ex e2
  refine And.intro (fun _ => ?_) (fun h_9 => absurd h_9 ((by decide)))
  (refine Exists.intro 0 ?_; refine ⟨0, _, Nat.zero_le _, Nat.zero_le _, k_layArms _ t M _ _ rfl ht hM rfl c1 c2 c5 c6 h114 G1 h118 hR, ?_⟩; rintro _ w2 _ ⟨rfl, rfl, f5, h6, g7, h7, h8⟩)
  have hB2 : MB w2 s1 wd tn N R := hB1.wr f5 (fun k hk => by omega) h6 ⟨f7, f5.get h117 (by omega)⟩ ⟨g7, h7⟩
  have k90 : w2 90 = oMod s1 wd tn := hB2.1
  have f2 := f1.tr (H := fun k => FM k ∨ (126 ≤ k ∧ k ≤ 128)) f5 (fun k hk => by omega) (fun k hk => by omega)
  have k126 := f5.get j126 (by omega)
  have k127 := f5.get j127 (by omega)
  have k128 := f5.get j128 (by omega)
  generalize hAe : TBv M (R t) = A at *
  generalize hQ : (qI (nI (cnt (fun f => thB M (A f)) M)) fun w' n' => n = n' ∧ Fr (fun k => FM k ∨ (126 ≤ k ∧ k ≤ 128)) (va_up w9 90 (oMod s wd tn)) w' ∧ ∃ s', Fr (fun k => GA k ∨ k = 57) s s' ∧ s' 0 = nI 0 ∧ s' 57 = nI (cnt (fun f => thB M (A f)) M) ∧ MB w' s' wd tn N R ∧ ∃ arm' sp' pl', w' 126 = aI 60 arm' ∧ w' 127 = aJ 60 sp' ∧ w' 128 = aZ 60 pl' ∧ KeptIs M A M arm' sp' pl') = Q
  have loop : ∀ f, f ≤ M → ∀ w3 arm sp pl, Fr (fun k => k = 90 ∨ (126 ≤ k ∧ k ≤ 128)) w2 w3 → w3 90 = oMod (upd s1 57 (nI (cnt (fun f => thB M (A f)) f))) wd tn → w3 126 = aI 60 arm → w3 127 = aJ 60 sp → w3 128 = aZ 60 pl → KeptIs M A f arm sp pl → ab_Ev X l i_Mod_back 27 [some (.ref 90), some (.int (nI t)), some (.int (nI f))] [] w3 n 0 0 Q := by
    refine ab_up M ?_ (fun f hf ih => ?_)
    · intro w3 arm sp pl hf h90 h26 h27 h28 hk
      have hs : Fr (fun k => k = 57) s1 (upd s1 57 (nI (cnt (fun f => thB M (A f)) M))) := Fr.refl.us rfl
      obtain ⟨w3, rfl⟩ := va_ex h90
      refine ab_sound ok_230 [27] 80 ?_
      refine And.intro (fun _ => ?_) (fun h_9 => absurd ((by rw [upd_ne (by omega), c1]; exact nI_le (Nat.le_refl _) (by omega))) h_9)
      subst hQ
      have hB3 : MB (va_up w3 90 (oMod (upd s1 57 (nI (cnt (fun f => thB M (A f)) M))) wd tn)) (upd s1 57 (nI (cnt (fun f => thB M (A f)) M))) wd tn N R := by
        obtain ⟨b0, b1, b2, ⟨b3, b4⟩, ⟨b5, b6⟩, b7, b8⟩ := hB2
        exact ⟨rfl, b1.fr hf hs (by omega) (by omega) (by omega) (by omega) (by omega), b2.fr hf (by omega) (by omega), ⟨b3, hf.get b4 (by omega)⟩, ⟨b5, hf.get b6 (by omega)⟩, b7, hf.get b8 (by omega)⟩
      exact ⟨rfl, rfl, f2.tr hf (fun k hk => hk) (fun k hk => by omega), _, g1.tr hs (fun k hk => Or.inl hk) (fun k hk => Or.inr hk), hs.get g10 (by omega), upd_at, hB3, arm, sp, pl, h26, h27, h28, hk⟩
    · intro w3 arm sp pl hfr h90 h26 h27 h28 hk
      have k118 := hfr.get h7 (by omega)
      have hcf := cnt_le (fun f => thB M (A f)) f
      rw [cnt_s] at ih
      generalize hc : cnt (fun f => thB M (A f)) f = c at *
      have d1 : (upd s1 57 (nI c)) 38 = nI M := (upd_ne (by omega)).trans c1
      have d2 : (upd s1 57 (nI c)) 39 = nI (phi M) := (upd_ne (by omega)).trans c2
      have hc9 : c < 2 ^ 31 := by omega
      obtain ⟨w3, rfl⟩ := va_ex5 h90 h26 h27 h28 k118
      refine ab_sound ok_230 [27, 116] 100 ?_
      refine And.intro (fun h_9 => absurd h_9 ((by rw [d1]; exact nI_ge hf (by omega)))) (fun _ => ?_)
      (refine Exists.intro 0 ?_; refine ⟨0, _, Nat.zero_le _, Nat.zero_le _, c_Mod_isNought_at (phi M) (60 * f) 3600 _ _ _ (pk_mul 60 f) hp (by omega) (by omega) d2 rfl rfl, ?_⟩; refine ab_q1_elim ?_)
      rw [no_th h8 hf]
      cases hb : thB M (A f)
      · refine And.intro (fun h_9 => absurd h_9 ((by decide))) (fun _ => ?_)
        rw [hb] at ih
        exact ab_ev_of (ih _ arm sp pl hfr rfl rfl rfl rfl (hk.no hb)) (by rw [nI_s f]; rfl) rfl rfl
      · refine And.intro (fun _ => ?_) (fun h_9 => absurd (rfl) h_9)
        rw [hb, if_pos rfl] at ih
        have hk2 := hk.yes
        rw [hc] at hk2
        refine And.intro ((show vp_in (nI c) 60 from vp_in_nI (by omega) (by omega))) ?_
        (refine Exists.intro 0 ?_; refine ⟨0, _, Nat.zero_le _, Nat.zero_le _, c_Mod_isPlain _ f M _ _ rfl hf hM rfl d1 d2 rfl h8, ?_⟩; refine ab_q1_elim ?_)
        refine And.intro ((show vp_in (nI c) 60 from vp_in_nI (by omega) (by omega))) ?_
        refine And.intro ((show vp_in (nI c) 60 from vp_in_nI (by omega) (by omega))) ?_
        simp only [upd_at, nI_clamp hc9, nar_b01]
        have go : ∀ z : Int64, z = spV M (A f) → ab_Ev X l i_Mod_back 116 [some (.ref 90), some (.int (nI t)), some (.int (nI f))] [.long z, .int (nI c), .ref 127] (va_up (va_up (va_up (va_up (va_up (va_up (va_up w3 118 (aJ 3600 g7)) 128 (aZ 60 pl)) 127 (aJ 60 sp)) 126 (aI 60 arm)) 90 (oMod (upd s1 57 (nI c)) wd tn)) 126 (aI 60 (upd arm c (nI f)))) 128 (aZ 60 (upd pl c (b01 (plB M (A f)))))) n 0 0 Q := by
          intro z hz
          subst hz
          refine ab_sound ok_230 [27] 100 ?_
          refine And.intro (vp_in_nI (by omega) (by omega)) ?_
          rw [nI_clamp hc9]
          refine ab_ev_of (ih _ _ _ _ ((((hfr.up (by omega)).up (by omega)).up (by omega)).up (by omega)) ?_ rfl rfl rfl hk2) (by rw [nI_s f]; rfl) rfl rfl
          show oMod (upd (upd s1 57 (nI c)) 57 (nI c + nI 1)) wd tn = _
          rw [upd_upd, nI_add]
        cases hb2 : plB M (A f)
        · refine And.intro (fun _ => ?_) (fun h_9 => absurd (rfl) h_9)
          rw [← hb2]
          exact go _ (by unfold spV; rw [hb2]; rfl)
        · refine And.intro (fun h_9 => absurd h_9 ((by decide))) (fun _ => ?_)
          have hg0 := h8 f 0 hf (by have := phi_ge M hM.2 hM.1; omega)
          rw [Nat.add_zero] at hg0
          refine And.intro ((by rw [pk_mul]; exact vp_in_nI (by omega) (by omega))) ?_
          refine And.intro ((by rw [d1]; exact lNn0 (by omega) (by omega))) ?_
          rw [← hb2]
          refine go _ ?_
          rw [pk_mul, nI_clamp (by omega), hg0, d1, nI_l (by omega)]
          unfold spV
          rw [hb2, if_pos rfl]
  have fin := loop 0 (by omega) (va_up w2 90 (oMod (upd s1 57 (nI 0)) wd tn)) arm sp pl (Fr.refl.up (by omega)) va_us ((va_un (by omega)).trans k126) ((va_un (by omega)).trans k127) ((va_un (by omega)).trans k128) (fun f hf => by omega)
  obtain ⟨w2, rfl⟩ := va_ex k90
  exact ab_ev_of fin rfl rfl rfl
/-- what backAt() answers, told with truth values -/
theorem c_Mod_backAt (x y : Int32) (i m : Nat) (b : Bool) (w : ab_W) (n : Nat) {s : Nat → Int32} {wd tn : Int64} {arm pl : Nat → Int32} {sp : Nat → Int64} (hx : x = nI i) (hi : i < m) (hm : m ≤ 60) (h90 : w 90 = oMod s wd tn) (hs : s 57 = nI m) (h126 : w 126 = aI 60 arm) (h127 : w 127 = aJ 60 sp) (h128 : w 128 = aZ 60 pl) (hb : pl i = b01 b) :
    ab_C X l i_Mod_backAt [.ref 90, .int x, .int y] w n 0 0 (ab_q1 (some (.long (bkV y (arm i) (sp i) (pl i)))) (va_up w 90 (oMod (upd s 0 (nI 0)) wd tn)) n) := by
  subst hx
  obtain ⟨w, rfl⟩ := va_ex4 h90 h126 h127 h128
  refine ab_metL cd_234 om_234 rfl rfl (ab_sound ok_234 [] 80 ?_)
  refine And.intro (fun h_9 => absurd h_9 (nI_pos (by omega))) (fun _ => ?_)
  refine And.intro (fun _ => ?_) (fun h_9 => absurd ((by show nI i < s 57; rw [hs]; exact nI_lt hi (by omega))) h_9)
  unfold bkV
  refine And.intro (fun e0 => ?_) (fun e0 => ?_)
  · have e0 : ¬ y = nI 0 := e0
    refine And.intro (fun e1 => ?_) (fun e1 => ?_)
    · refine And.intro (fun e2 => ?_) (fun e2 => ?_)
      · rw [if_neg e0, if_neg e1, if_neg e2]
        exact ⟨rfl, rfl, rfl⟩
      · refine And.intro (vp_in_nI (by omega) (by omega)) ?_
        rw [nI_clamp (by omega), if_neg e0, if_neg e1, if_pos e2, hb]
        cases b
        · refine And.intro (fun _ => ?_) (fun h_9 => absurd (rfl) h_9)
          exact ⟨rfl, rfl, rfl⟩
        · refine And.intro (fun h_9 => absurd h_9 ((by decide))) (fun _ => ?_)
          exact ⟨rfl, rfl, rfl⟩
    · refine And.intro (vp_in_nI (by omega) (by omega)) ?_
      rw [nI_clamp (by omega), if_neg e0, if_pos e1]
      exact ⟨rfl, rfl, rfl⟩
  · have e0 : y = nI 0 := e0
    refine And.intro (vp_in_nI (by omega) (by omega)) ?_
    rw [nI_clamp (by omega), if_pos e0]
    exact ⟨rfl, rfl, rfl⟩
theorem c_Mod_backAt_n (x y : Int32) (w : ab_W) (n : Nat) {s : Nat → Int32} {wd tn : Int64} (hx : x < 0 ∨ s 57 ≤ x) (h90 : w 90 = oMod s wd tn) : ab_C X l i_Mod_backAt [.ref 90, .int x, .int y] w n 0 0 (ab_q1 (some (.long (-lN 1))) (va_up w 90 (oMod (upd s 0 (nI 0)) wd tn)) n) := by
  obtain ⟨w, rfl⟩ := va_ex h90
  refine ab_metL cd_234 om_234 rfl rfl (ab_sound ok_234 [] 80 ?_)
  refine And.intro (fun e => ?_) (fun e => ?_)
  · exact ⟨rfl, (by first | rfl | (simp only [va_uu, va_uc, Nat.reduceLT]; done) | (simp only [va_uu, va_uc, Nat.reduceLT]; rfl)), rfl⟩
  · refine And.intro (fun h_9 => absurd h_9 ((by have := hx.resolve_left e; rw [i32_le] at this; show ¬ x < s 57; rw [i32_lt]; omega))) (fun _ => ?_)
    exact ⟨rfl, (by first | rfl | (simp only [va_uu, va_uc, Nat.reduceLT]; done) | (simp only [va_uu, va_uc, Nat.reduceLT]; rfl)), rfl⟩
theorem c_Mod_wrong (w : ab_W) (n : Nat) {s : Nat → Int32} {wd tn : Int64} (h90 : w 90 = oMod s wd tn) : ab_C X l i_Mod_wrong [.ref 90] w n 0 0 (ab_q1 (some (.int (s 58))) (va_up w 90 (oMod (upd s 0 (nI 0)) wd tn)) n) := by
  obtain ⟨w, rfl⟩ := va_ex h90
  refine ab_metI cd_237 om_237 rfl (ab_sound ok_237 [] 80 ?_)
  exact ⟨rfl, (by first | rfl | (simp only [va_uu, va_uc, Nat.reduceLT]; done) | (simp only [va_uu, va_uc, Nat.reduceLT]; rfl)), rfl⟩
theorem c_Mod_rightAt (x : Int32) (i m : Nat) (w : ab_W) (n : Nat) {s : Nat → Int32} {wd tn : Int64} {c : Nat → Int64} (hx : x = nI i) (hi : i < m) (hm : m ≤ 58) (h90 : w 90 = oMod s wd tn) (hs : s 59 = nI m) (hch : s 58 ≠ -nI 1) (h129 : w 129 = aJ 60 c) :
    ab_C X l i_Mod_rightAt [.ref 90, .int x] w n 0 0 (ab_q1 (some (.long (c i))) (va_up w 90 (oMod (upd s 0 (nI 0)) wd tn)) n) := by
  subst hx
  obtain ⟨w, rfl⟩ := va_ex2 h90 h129
  refine ab_metL cd_238 om_238 rfl rfl (ab_sound ok_238 [] 80 ?_)
  refine And.intro (fun h_9 => absurd h_9 (hch)) (fun _ => ?_)
  refine And.intro (fun h_9 => absurd h_9 (nI_pos (by omega))) (fun _ => ?_)
  refine And.intro (fun _ => ?_) (fun h_9 => absurd ((by show nI i < s 59; rw [hs]; exact nI_lt hi (by omega))) h_9)
  refine And.intro (vp_in_nI (by omega) (by omega)) ?_
  rw [nI_clamp (by omega)]
  exact ⟨rfl, (by first | rfl | (simp only [va_uu, va_uc, Nat.reduceLT]; done) | (simp only [va_uu, va_uc, Nat.reduceLT]; rfl)), rfl⟩
theorem c_Mod_rightAt_n (x : Int32) (w : ab_W) (n : Nat) {s : Nat → Int32} {wd tn : Int64} (hx : s 58 = -nI 1 ∨ x < 0 ∨ s 59 ≤ x) (h90 : w 90 = oMod s wd tn) :
    ab_C X l i_Mod_rightAt [.ref 90, .int x] w n 0 0 (ab_q1 (some (.long 0)) (va_up w 90 (oMod (upd s 0 (nI 1)) wd tn)) n) := by
  obtain ⟨w, rfl⟩ := va_ex h90
  refine ab_metL cd_238 om_238 rfl rfl (ab_sound ok_238 [20] 80 ?_)
  have fin : ab_Ev X l i_Mod_rightAt 20 [some (.ref 90), some (.int x)] [] (va_up w 90 (oMod s wd tn)) n 0 0 (ab_q1 (some (.long 0)) (va_up (va_up w 90 (oMod s wd tn)) 90 (oMod (upd s 0 (nI 1)) wd tn)) n) := by
    refine ab_sound ok_238 [] 80 ?_
    (refine Exists.intro 0 ?_; refine ⟨0, _, Nat.zero_le _, Nat.zero_le _, c_Mod_refuse _ _ rfl, ?_⟩; refine ab_q1_elim ?_)
    exact ⟨rfl, rfl, rfl⟩
  refine And.intro (fun e => ?_) (fun e => ?_)
  · exact fin
  · refine And.intro (fun e1 => ?_) (fun e1 => ?_)
    · exact fin
    · refine And.intro (fun h_9 => absurd h_9 ((by have := (hx.resolve_left e).resolve_left e1; rw [i32_le] at this; show ¬ x < s 59; rw [i32_lt]; omega))) (fun _ => ?_)
      exact fin
end MTOLD
