section MRIGHT
variable {X : ab_X} {l : Launch}
theorem k_turnArms (x : Int32) (k M : Nat) (w : ab_W) (n : Nat) {s : Nat → Int32} {wd tn : Int64} {ph : Nat → Int32} {f g g7 : Nat → Int64} {A : Nat → Nat → Int64} (hx : x = nI k) (hk : k < M) (hM : 3 ≤ M ∧ M ≤ 60) (h90 : w 90 = oMod s wd tn) (c1 : s 38 = nI M) (c2 : s 39 = nI (phi M)) (c5 : w 113 = aI 3600 ph) (c6 : PowIs M ph) (h114 : w 114 = aJ 60 f) (h118 : w 118 = aJ 3600 g) (h117 : w 117 = aJ 3600 g7) (hg : Rm M g A) :
    ab_C X l i_Mod_turnArms [.ref 90, .int x] w n 0 0 (qV fun w' n' => n = n' ∧ Fr FW w w' ∧ (∃ f, w' 114 = aJ 60 f) ∧ ∃ g, w' 117 = aJ 3600 g ∧ Rm M g (fun f => tv M (f * k) (A f))) := by
  subst hx
  refine ab_mqV cd_236 om_236 rfl rfl (ab_sound ok_236 [2] 50 ?_)
  have loop : ∀ j, j ≤ M → ∀ w3, Fr FW w w3 → ∀ f, w3 114 = aJ 60 f → ∀ g, w3 117 = aJ 3600 g → (∀ a i, a < j → i < phi M → g (60 * a + i) = tv M (a * k) (A a) i) → ab_Ev X l i_Mod_turnArms 2 [some (.ref 90), some (.int (nI k)), some (.int (nI j))] [] w3 n 0 0 (qV fun w' n' => n = n' ∧ Fr FW w w' ∧ (∃ f, w' 114 = aJ 60 f) ∧ ∃ g, w' 117 = aJ 3600 g ∧ Rm M g (fun f => tv M (f * k) (A f))) := by
    refine ab_up M ?_ (fun j hj ih => ?_)
    · intro w3 hf f hf4 g hg3 hr3
      have k90 : w3 90 = oMod s wd tn := hf.get h90 (by omega)
      obtain ⟨w3, rfl⟩ := va_ex k90
      refine ab_sound ok_236 [2] 50 ?_
      refine And.intro (fun _ => ?_) (fun h_9 => absurd ((by rw [c1]; exact nI_le (Nat.le_refl _) (by omega))) h_9)
      exact ⟨rfl, rfl, hf, ⟨f, hf4⟩, g, hg3, hr3⟩
    · intro w3 hf f hf4 g3 hg3 hr3
      have k90 : w3 90 = oMod s wd tn := hf.get h90 (by omega)
      have k118 := hf.get h118 (by omega)
      have k113 : w3 113 = aI 3600 ph := hf.get c5 (by omega)
      have hjk := fk_lt hM.2 hj hk
      have hjk2 : j * k ≤ 60 * 60 := Nat.mul_le_mul (by omega) (by omega)
      obtain ⟨w3, rfl⟩ := va_ex k90
      refine ab_sound ok_236 [2] 80 ?_
      refine And.intro (fun h_9 => absurd h_9 ((by rw [c1]; exact nI_ge hj (by omega)))) (fun _ => ?_)
      (refine Exists.intro 0 ?_; refine ⟨0, _, Nat.zero_le _, Nat.zero_le _, c_Mod_clear _ _ rfl hf4, ?_⟩; refine ab_q1_elim ?_)
      (refine Exists.intro 0 ?_; refine ⟨0, _, Nat.zero_le _, Nat.zero_le _, c_Mod_by _ M (by omega) (by omega) _ _ rfl c1, ?_⟩; refine ab_q1_elim ?_)
      rw [show md (nI j * nI k).toInt64.toInt M = (j * k) % M by rw [pk_mul, nI_l (by omega), lN_toInt (by omega), md_nat]]
      have hlt : (j * k) % M < M := Nat.mod_lt _ (by omega)
      (refine Exists.intro 0 ?_; refine ⟨0, _, Nat.zero_le _, Nat.zero_le _, c_Mod_gather_118 _ _ _ _ M (60 * j) 3600 ((j * k) % M) _ _ false rfl (pk_mul 60 j) rfl hM.2 hM.1 hlt (by omega) (by omega) c1 c2 rfl va_us k118, ?_⟩; refine ab_q1_elim ?_)
      (refine Exists.intro 0 ?_; refine ⟨0, _, Nat.zero_le _, Nat.zero_le _, c_Mod_write_117 _ M (60 * j) 3600 _ _ (pk_mul 60 j) hM.2 hM.1 (by omega) (by omega) c1 c2 rfl k113 c6 va_us hg3, ?_⟩; refine ab_q1_elim ?_)
      refine ab_ev_of (ih _ (((hf.up (by omega)).up (by omega)).up (by omega)) _ ((va_un (by omega)).trans va_us) _ va_us (wr_rows hM hr3 ?_)) (by rw [nI_s j]; rfl) rfl rfl
      intro i hi
      have e1 := e60_red hM.2 (e60_ga (ix := fun i => ((j * k) % M + i) % M) (v := fun i => lN 1 * g (60 * j + i)) (ix2 := fun i => ((j * k) % M + i) % M) (v2 := A j) (e60_zb f) (phi M) (fun a ha => ⟨Nat.lt_of_lt_of_le (Nat.mod_lt _ (by omega)) hM.2, rfl, by
        have := hg j a hj ha
        show lN 1 * g (60 * j + a) = _
        rw [this, show lN 1 = 1 from rfl, Int64.one_mul]⟩)) i
      refine e1.trans ?_
      rw [tv_red hM.2 hM.1, tv_mod hM.2 hM.1]
  exact ab_ev_of (loop 0 (by omega) w Fr.refl f h114 g7 h117 (fun j i hj => by omega)) rfl rfl rfl
theorem th_tv {M : Nat} (hM : 3 ≤ M ∧ M ≤ 60) (u : Nat) (r : Nat → Int64) : lkB (phi M) (tv M u r) (fun _ => 0) = !thB M r := by
  unfold thB
  rw [Bool.not_not, Bool.eq_iff_iff, lkB_iff, lkB_iff]
  constructor
  · intro z
    have hlt : u % M < M := Nat.mod_lt _ (by omega)
    refine tv_z hM.2 hM.1 (show u % M ≤ M by omega) (fun i hi => ?_)
    rw [tv_mod hM.2 hM.1]
    exact z i hi
  · intro z i hi
    rw [tv_congr z, tv_Z]
abbrev FY (k : Nat) : Prop := k = 114 ∨ k = 117 ∨ k = 118
theorem k_Mod_right (x : Int32) (t : Nat) (w : ab_W) (n : Nat) {s : Nat → Int32} {wd tn : Int64} {N : Nat → Nat} {R : Nat → Nat → Nat → Int64} {c129 : Nat → Int64} (hx : x = nI t) (ht : t < 8) (hN : N t ≠ 0) (h : MB w s wd tn N R) (h129 : w 129 = aJ 60 c129) :
    ab_C X l i_Mod_right [.ref 90, .int x] w n 0 0 (fun v w' n' => n = n' ∧ ∃ (b : Nat) (o : Option Nat) (s' : Nat → Int32) (c : Nat → Int64), v = some (.int (nI (N t) - nI b)) ∧ ScIs (cnt (fun f => !thB (N t) (TBv (N t) (R t) f)) (N t)) (aX (N t) (alM (N t) (TBv (N t) (R t)))) (N t * N t) b o ∧ Fr (fun k => FM k ∨ k = 129) w w' ∧ Fr (fun k => GA k ∨ k = 58 ∨ k = 59) s s' ∧ s' 0 = nI 0 ∧ s' 58 = chV (N t) o ∧ s' 59 = nI (phi (N t)) ∧ MB w' s' wd tn N R ∧ w' 129 = aJ 60 c ∧ ∀ y, o = some y → ∀ i, i < phi (N t) → c i = R t (y / N t) i - tv (N t) (y % N t * (y / N t)) (TBv (N t) (R t) (y % N t)) i) := by
  subst hx
  have hB0 := h.set0 (nI 0)
  obtain ⟨h0, -⟩ := h
  obtain ⟨w9, rfl⟩ := va_ex h0
  refine ab_met cd_235 om_235 rfl (by rintro _ _ _ ⟨-, b, o, s', c, rfl, -⟩; trivial) (ab_sound ok_235 [24] 80 ?_)
  (refine Exists.intro 0 ?_; refine ⟨0, _, Nat.zero_le _, Nat.zero_le _, k_has_y _ t _ _ rfl ht hN hB0.1 hB0.2.1 hB0.2.2.1, ?_⟩; rintro _ w1 _ ⟨rfl, rfl, e1, s1, e2, e3, e4⟩)
  have hB1 := hB0.laid e1 e2 e4
  have f1 : Fr FM (va_up w9 90 (oMod s wd tn)) w1 := (Fr.refl.up (by omega)).trans (e1.mono (fun k hk => by omega))
  have g1 : Fr GA s s1 := (Fr.refl.us (by omega)).trans (e3.mono (fun k hk => by omega))
  have g10 : s1 0 = nI 0 := e3.get rfl (by omega)
  obtain ⟨hM, ⟨c1, c2⟩, pf, pg, ph, c3, c4, c5, c6⟩ := id e4
  have hp := phi_le _ hM.2
  obtain ⟨G, G1, G2⟩ := hB1.2.2.1.rows
  have hR := G2 t ht
  obtain ⟨f4, h114⟩ := hB1.2.2.2.1
  obtain ⟨f7, h117⟩ := hB1.2.2.2.2.1
  obtain ⟨f8, h118⟩ := hB1.2.2.2.2.2
  have j129 := f1.get h129 (by omega)
  generalize hMe : N t = M at *
  obtain ⟨w1, rfl⟩ := va_ex e2
  refine And.intro (fun _ => ?_) (fun h_9 => absurd h_9 ((by decide)))
  (refine Exists.intro 0 ?_; refine ⟨0, _, Nat.zero_le _, Nat.zero_le _, k_layArms _ t M _ _ rfl ht hM rfl c1 c2 c5 c6 h114 G1 h118 hR, ?_⟩; rintro _ w2 _ ⟨rfl, rfl, f5, h6, g7, h7, h8⟩)
  have hB2 : MB w2 s1 wd tn N R := hB1.wr f5 (fun k hk => by omega) h6 ⟨f7, f5.get h117 (by omega)⟩ ⟨g7, h7⟩
  have k90 : w2 90 = oMod s1 wd tn := hB2.1
  have f2 := f1.tr (H := fun k => FM k ∨ k = 129) f5 (fun k hk => by omega) (fun k hk => by omega)
  have k117 := f5.get h117 (by omega)
  have k129 := f5.get j129 (by omega)
  have k113 := f5.get c5 (by omega)
  have k116 := f5.get G1 (by omega)
  obtain ⟨f6, k114⟩ := h6
  generalize hAe : TBv M (R t) = A at *
  have hMM : M * M ≤ 60 * 60 := Nat.mul_le_mul hM.2 hM.2
  generalize hQ : (fun (v : Option Value) (w' : ab_W) (n' : Nat) => n = n' ∧ ∃ (b : Nat) (o : Option Nat) (s' : Nat → Int32) (c : Nat → Int64), v = some (.int (nI M - nI b)) ∧ ScIs (cnt (fun f => !thB M (A f)) M) (aX M (alM M A)) (M * M) b o ∧ Fr (fun k => FM k ∨ k = 129) (va_up w9 90 (oMod s wd tn)) w' ∧ Fr (fun k => GA k ∨ k = 58 ∨ k = 59) s s' ∧ s' 0 = nI 0 ∧ s' 58 = chV M o ∧ s' 59 = nI (phi M) ∧ MB w' s' wd tn N R ∧ w' 129 = aJ 60 c ∧ ∀ y, o = some y → ∀ i, i < phi M → c i = R t (y / M) i - tv M (y % M * (y / M)) (A (y % M)) i) = Q
  generalize hG0 : cnt (fun f => !thB M (A f)) M = G0 at *
  have hG0N : G0 ≤ M := by rw [← hG0]; exact cnt_le _ _
  have hsN : Fr (fun k => k = 58 ∨ k = 59) s1 s1 := Fr.refl
  have mkB : ∀ w3 s3, Fr (fun k => k = 90 ∨ FY k ∨ k = 129) w2 w3 → Fr (fun k => k = 58 ∨ k = 59) s1 s3 → w3 90 = oMod s3 wd tn → (∃ f, w3 114 = aJ 60 f) → (∃ f, w3 117 = aJ 3600 f) → w3 118 = aJ 3600 g7 → MB w3 s3 wd tn N R := by
    intro w3 s3 hf hs z0 z1 z2 z3
    obtain ⟨b0, b1, b2, ⟨b3, b4⟩, ⟨b5, b6⟩, b7, b8⟩ := hB2
    exact ⟨z0, b1.fr hf hs (by omega) (by omega) (by omega) (by omega) (by omega), b2.fr hf (by omega) (by omega), z1, z2, _, z3⟩
  -- the end: what is put right
  have fin : ∀ w3, Fr FW w2 w3 → ∀ f, w3 114 = aJ 60 f → ∀ g, w3 117 = aJ 3600 g → ∀ (b : Nat) (o : Option Nat) (l4 : Int32), ScIs G0 (aX M (alM M A)) (M * M) b o → (∀ y, o = some y → l4 = nI (y % M)) → ∀ l5 l6 l7 l8 : Option Value, ab_Ev X l i_Mod_right 190 [some (.ref 90), some (.int (nI t)), some (.int (nI b)), some (.int (chV M o)), some (.int l4), l5, l6, l7, l8] [] w3 n 0 0 Q := by
    intro w3 hf f hf4 g hg b o l4 hs hl l5 l6 l7 l8
    have z90 := hf.get k90 (by omega)
    have z118 := hf.get h7 (by omega)
    have z129 := hf.get k129 (by omega)
    have z113 := hf.get k113 (by omega)
    have z116 := hf.get k116 (by omega)
    have fs : Fr (fun k => k = 58 ∨ k = 59) s1 (upd (upd s1 58 (chV M o)) 59 (nI (phi M))) := (Fr.refl.us (by omega)).us (by omega)
    have d1 : (upd (upd s1 58 (chV M o)) 59 (nI (phi M))) 38 = nI M := fs.get c1 (by omega)
    have d2 : (upd (upd s1 58 (chV M o)) 59 (nI (phi M))) 39 = nI (phi M) := fs.get c2 (by omega)
    have fw : Fr (fun k => k = 90 ∨ FY k ∨ k = 129) w2 (va_up w3 90 (oMod (upd (upd s1 58 (chV M o)) 59 (nI (phi M))) wd tn)) := (hf.mono (fun k hk => by omega)).up (by omega)
    have y114 : (va_up w3 90 (oMod (upd (upd s1 58 (chV M o)) 59 (nI (phi M))) wd tn)) 114 = aJ 60 f := (va_un (by omega)).trans hf4
    have y117 : (va_up w3 90 (oMod (upd (upd s1 58 (chV M o)) 59 (nI (phi M))) wd tn)) 117 = aJ 3600 g := (va_un (by omega)).trans hg
    have y118 : (va_up w3 90 (oMod (upd (upd s1 58 (chV M o)) 59 (nI (phi M))) wd tn)) 118 = aJ 3600 g7 := (va_un (by omega)).trans z118
    have y129 : (va_up w3 90 (oMod (upd (upd s1 58 (chV M o)) 59 (nI (phi M))) wd tn)) 129 = aJ 60 c129 := (va_un (by omega)).trans z129
    have y113 : (va_up w3 90 (oMod (upd (upd s1 58 (chV M o)) 59 (nI (phi M))) wd tn)) 113 = aI 3600 ph := (va_un (by omega)).trans z113
    have y116 : (va_up w3 90 (oMod (upd (upd s1 58 (chV M o)) 59 (nI (phi M))) wd tn)) 116 = aJ 28800 G := (va_un (by omega)).trans z116
    have hlast : ∀ w5 c, Fr (fun k => k = 90 ∨ FY k ∨ k = 129) w2 w5 → w5 90 = oMod (upd (upd s1 58 (chV M o)) 59 (nI (phi M))) wd tn → (∃ f, w5 114 = aJ 60 f) → (∃ f, w5 117 = aJ 3600 f) → w5 118 = aJ 3600 g7 → w5 129 = aJ 60 c → (∀ y, o = some y → ∀ i, i < phi M → c i = R t (y / M) i - tv M (y % M * (y / M)) (A (y % M)) i) → Q (some (.int (nI M - nI b))) w5 n := by
      intro w5 c q1 q2 q3 q4 q5 q6 q7
      subst hQ
      exact ⟨rfl, b, o, _, c, rfl, hs, f2.tr q1 (fun k hk => hk) (fun k hk => by omega), g1.tr fs (fun k hk => Or.inl hk) (fun k hk => Or.inr hk), fs.get g10 (by omega), (upd_ne (by omega)).trans upd_at, upd_at, mkB w5 _ q1 fs q2 q3 q4 q5, q6, q7⟩
    have at203 : ab_Ev X l i_Mod_right 203 [some (.ref 90), some (.int (nI t)), some (.int (nI b)), some (.int (chV M o)), some (.int l4), l5, l6, l7, l8] [] (va_up w3 90 (oMod (upd (upd s1 58 (chV M o)) 59 (nI (phi M))) wd tn)) n 0 0 Q := by
      cases o with
      | none =>
        refine ab_sound ok_235 [] 80 ?_
        refine And.intro (fun h_9 => absurd (rfl) h_9) (fun _ => ?_)
        have := hlast _ c129 fw rfl ⟨f, y114⟩ ⟨g, y117⟩ y118 y129 (fun y hy => by cases hy)
        rw [← d1] at this
        exact this
      | some y =>
        have hy := hs.1
        have hyk : y / M < M := Nat.div_lt_of_lt_mul hy
        have hyf : y % M < M := Nat.mod_lt _ (by omega)
        have hl4 := hl y rfl
        subst hl4
        refine ab_sound ok_235 [223] 80 ?_
        refine And.intro (fun _ => ?_) (fun h_9 => absurd h_9 (nI_nn (show y / M < 2 ^ 31 by omega)))
        (refine Exists.intro 0 ?_; refine ⟨0, _, Nat.zero_le _, Nat.zero_le _, k_turnArms _ (y / M) M _ _ rfl hyk hM rfl d1 d2 y113 c6 y114 y118 y117 h8, ?_⟩; rintro _ w4 _ ⟨rfl, rfl, a1, ⟨a2, a3⟩, g9, a4, a5⟩)
        have b90 : w4 90 = oMod (upd (upd s1 58 (chV M (some y))) 59 (nI (phi M))) wd tn := a1.get rfl (by omega)
        have b118 := a1.get y118 (by omega)
        have b129 := a1.get y129 (by omega)
        have b116 := a1.get y116 (by omega)
        have fw4 : Fr (fun k => k = 90 ∨ FY k ∨ k = 129) w2 w4 := fw.trans (a1.mono (fun k hk => by omega))
        have lp : ∀ i, i ≤ phi M → ∀ c, (∀ j, j < i → c j = R t (y / M) j - tv M (y % M * (y / M)) (A (y % M)) j) → ∀ w5, Fr (fun k => k = 129) w4 w5 → w5 129 = aJ 60 c → ab_Ev X l i_Mod_right 223 [some (.ref 90), some (.int (nI t)), some (.int (nI b)), some (.int (nI (y / M))), some (.int (nI (y % M))), some (.int (nI i)), l6, l7, l8] [] w5 n 0 0 Q := by
          refine ab_up (phi M) ?_ (fun i hi ih => ?_)
          · intro c hc w5 f5 h5
            have v90 := f5.get b90 (by omega)
            have this := hlast w5 c (fw4.trans (f5.mono (fun k hk => by omega))) v90 ⟨a2, f5.get a3 (by omega)⟩ ⟨g9, f5.get a4 (by omega)⟩ (f5.get b118 (by omega)) h5 (fun z hz => by cases hz; exact hc)
            rw [← d1] at this
            obtain ⟨w5, rfl⟩ := va_ex v90
            refine ab_sound ok_235 [223] 80 ?_
            refine And.intro (fun _ => ?_) (fun h_9 => absurd ((by rw [d2]; exact nI_le (Nat.le_refl _) (by omega))) h_9)
            exact this
          · intro c hc w5 f5 h5
            have v90 := f5.get b90 (by omega)
            have v116 := f5.get b116 (by omega)
            have v117 := f5.get a4 (by omega)
            obtain ⟨w5, rfl⟩ := va_ex4 v90 h5 v116 v117
            refine ab_sound ok_235 [223] 80 ?_
            refine And.intro (fun h_9 => absurd h_9 ((by rw [d2]; exact nI_ge hi (by omega)))) (fun _ => ?_)
            (refine Exists.intro 0 ?_; refine ⟨0, _, Nat.zero_le _, Nat.zero_le _, c_Mod_at _ _ t (y / M) _ _ rfl rfl, ?_⟩; refine ab_q1_elim ?_)
            refine And.intro ((by rw [nI_add]; exact vp_in_nI (by omega) (by omega))) ?_
            refine And.intro ((by rw [pk_mul, nI_add]; exact vp_in_nI (by omega) (by omega))) ?_
            refine And.intro (vp_in_nI (by omega) (by omega)) ?_
            have q1 := hR (y / M) i hyk hi
            unfold rowsOf at q1
            rw [nI_add, pk_mul, nI_add, nI_clamp (by omega), nI_clamp (by omega), nI_clamp (by omega), q1, a5 (y % M) i hyf hi]
            refine ab_ev_of (ih (vp_updL c i (R t (y / M) i - tv M (y % M * (y / M)) (A (y % M)) i)) (fun j hj => ?_) _ (f5.up rfl) va_us) (by rw [nI_s i]; rfl) rfl rfl
            by_cases e : j = i
            · rw [e, vp_at]
            · rw [vp_ne e]
              exact hc j (by omega)
        exact ab_ev_of (lp 0 (by omega) c129 (fun j hj => by omega) w4 Fr.refl b129) rfl rfl rfl
    obtain ⟨w3, rfl⟩ := va_ex z90
    refine ab_sound ok_235 [203] 80 ?_
    refine ab_ev_of at203 rfl rfl ?_
    rw [va_uu, va_uu, va_uu]
    show va_up w3 90 (oMod (upd (upd s1 58 (chV M o)) 59 (s1 39)) wd tn) = _
    rw [c2]
  have big : ∀ k, k ≤ M → ∀ w3, Fr FW w2 w3 → ∀ f, w3 114 = aJ 60 f → ∀ g, w3 117 = aJ 3600 g → ∀ (b : Nat) (o : Option Nat) (l4 : Int32), ScIs G0 (aX M (alM M A)) (k * M) b o → (∀ y, o = some y → l4 = nI (y % M)) → ∀ l6 l7 l8 : Option Value, ab_Ev X l i_Mod_right 64 [some (.ref 90), some (.int (nI t)), some (.int (nI b)), some (.int (chV M o)), some (.int l4), some (.int (nI k)), l6, l7, l8] [] w3 n 0 0 Q := by
    refine ab_up M ?_ (fun k hk ih => ?_)
    · intro w3 hf f hf4 g hg b o l4 hs hl l6 l7 l8
      have z90 := hf.get k90 (by omega)
      have fin := fin w3 hf f hf4 g hg b o l4 hs hl (some (.int (nI M))) l6 l7 l8
      obtain ⟨w3, rfl⟩ := va_ex z90
      refine ab_sound ok_235 [190] 80 ?_
      refine And.intro (fun _ => ?_) (fun h_9 => absurd ((by rw [c1]; exact nI_le (Nat.le_refl _) (by omega))) h_9)
      exact fin
    · intro w3 hf f hf4 g hg b o l4 hs hl l6 l7 l8
      have z90 := hf.get k90 (by omega)
      have z113 := hf.get k113 (by omega)
      have z118 := hf.get h7 (by omega)
      obtain ⟨w3, rfl⟩ := va_ex z90
      refine ab_sound ok_235 [82] 80 ?_
      refine And.intro (fun h_9 => absurd h_9 ((by rw [c1]; exact nI_ge hk (by omega)))) (fun _ => ?_)
      (refine Exists.intro 0 ?_; refine ⟨0, _, Nat.zero_le _, Nat.zero_le _, k_turnArms _ k M _ _ rfl hk hM rfl c1 c2 z113 c6 hf4 z118 hg h8, ?_⟩; rintro _ w4 _ ⟨rfl, rfl, a1, ⟨a2, a3⟩, g9, a4, a5⟩)
      have hf4' := hf.trans a1
      have b90 : w4 90 = oMod s1 wd tn := a1.get rfl (by omega)
      have rowl : ∀ j, j < M → Lk (phi M) (fun i => g9 (60 * j + i)) (tv M (j * k) (A j)) := fun j hj i hi => a5 j i hj hi
      have row : ∀ f, f ≤ M → ∀ (b : Nat) (o : Option Nat) (l4 : Int32), ScIs G0 (aX M (alM M A)) (k * M + f) b o → (∀ y, o = some y → l4 = nI (y % M)) → ∀ l7 l8 : Option Value, ab_Ev X l i_Mod_right 82 [some (.ref 90), some (.int (nI t)), some (.int (nI b)), some (.int (chV M o)), some (.int l4), some (.int (nI k)), some (.int (nI f)), l7, l8] [] w4 n 0 0 Q := by
        refine ab_up M ?_ (fun f hf ih2 => ?_)
        · intro b o l4 hs hl l7 l8
          rw [show k * M + M = (k + 1) * M by rw [Nat.add_mul, Nat.one_mul]] at hs
          have ih3 := ih w4 hf4' a2 a3 g9 a4 b o l4 hs hl (some (.int (nI M))) l7 l8
          obtain ⟨w4, rfl⟩ := va_ex b90
          refine ab_sound ok_235 [64] 80 ?_
          refine And.intro (fun _ => ?_) (fun h_9 => absurd ((by rw [c1]; exact nI_le (Nat.le_refl _) (by omega))) h_9)
          exact ab_ev_of ih3 (by rw [nI_s k]; rfl) rfl rfl
        · intro b o l4 hs hl l7 l8
          have hax : aX M (alM M A) (k * M + f) = alM M A k f := aX_at _ hf
          have haN : alM M A k f ≤ M := by
            unfold alM
            split
            · exact cnt_le _ _
            · omega
          have hkM : (k + 1) * M ≤ M * M := Nat.mul_le_mul_right _ (by omega)
          rw [Nat.add_mul, Nat.one_mul] at hkM
          have hbN : b ≤ M := by
            cases o with
            | none => have := hs.1; omega
            | some y =>
              have q := hs.2.1
              rw [q]
              unfold aX alM
              split
              · exact cnt_le _ _
              · omega
          obtain ⟨w4, rfl⟩ := va_ex2 b90 a4
          refine ab_sound ok_235 [82, 116] 80 ?_
          refine And.intro (fun h_9 => absurd h_9 ((by rw [c1]; exact nI_ge hf (by omega)))) (fun _ => ?_)
          (refine Exists.intro 0 ?_; refine ⟨0, _, Nat.zero_le _, Nat.zero_le _, c_Mod_isNought_117 (phi M) (60 * f) 3600 _ _ _ (pk_mul 60 f) hp (by omega) (by omega) c2 rfl rfl, ?_⟩; refine ab_q1_elim ?_)
          rw [lkB_c (rowl f hf) Lk.refl, th_tv hM]
          cases hb : thB M (A f)
          · refine And.intro (fun h_9 => absurd h_9 ((by decide))) (fun _ => ?_)
            have e0 : alM M A k f = 0 := by unfold alM; rw [hb]; rfl
            exact ab_ev_of (ih2 b o l4 (by rw [← Nat.add_assoc]; exact hs.keep (by rw [hax, e0]; omega)) hl l7 l8) (by rw [nI_s f]; rfl) rfl rfl
          · refine And.intro (fun _ => ?_) (fun h_9 => absurd (rfl) h_9)
            have e0 : alM M A k f = cnt (fun g => lkB (phi M) (tv M (f * k) (A f)) (tv M (g * k) (A g))) M := by unfold alM; rw [hb, if_pos rfl]
            have inn : ∀ g, g ≤ M → ab_Ev X l i_Mod_right 116 [some (.ref 90), some (.int (nI t)), some (.int (nI b)), some (.int (chV M o)), some (.int l4), some (.int (nI k)), some (.int (nI f)), some (.int (nI (cnt (fun g => lkB (phi M) (tv M (f * k) (A f)) (tv M (g * k) (A g))) g))), some (.int (nI g))] [] (va_up (va_up w4 117 (aJ 3600 g9)) 90 (oMod s1 wd tn)) n 0 0 Q := by
              refine ab_up M ?_ (fun g hg ih4 => ?_)
              · refine ab_sound ok_235 [82, 116] 80 ?_
                refine And.intro (fun _ => ?_) (fun h_9 => absurd ((by rw [c1]; exact nI_le (Nat.le_refl _) (by omega))) h_9)
                rw [← e0]
                by_cases e : alM M A k f ≤ b
                · refine And.intro (fun h_9 => absurd h_9 (nI_nlt e (by omega))) (fun _ => ?_)
                  exact ab_ev_of (ih2 b o l4 (by rw [← Nat.add_assoc]; exact hs.keep (by rw [hax]; omega)) hl (some (.int (nI (alM M A k f)))) (some (.int (nI M)))) (by rw [nI_s f]; rfl) rfl rfl
                · refine And.intro (fun _ => ?_) (fun h_9 => absurd (nI_lt (by omega) (by omega)) h_9)
                  have hup := hs.up (by rw [hax]; omega)
                  rw [hax, Nat.add_assoc] at hup
                  refine ab_ev_of (ih2 (alM M A k f) (some (k * M + f)) (nI f) hup (fun y hy => ?_) (some (.int (nI (alM M A k f)))) (some (.int (nI M)))) ?_ rfl rfl
                  · cases hy
                    rw [(dm_at hf).2]
                  · rw [nI_s f]
                    show _ = [_, _, _, some (Value.int (nI ((k * M + f) / M))), _, _, _, _, _]
                    rw [(dm_at hf).1]
                    rfl
              · rw [cnt_s] at ih4
                refine ab_sound ok_235 [116] 80 ?_
                refine And.intro (fun h_9 => absurd h_9 ((by rw [c1]; exact nI_ge hg (by omega)))) (fun _ => ?_)
                (refine Exists.intro 0 ?_; refine ⟨0, _, Nat.zero_le _, Nat.zero_le _, c_Mod_isLike_117 _ _ (phi M) (60 * f) (60 * g) 3600 _ _ (pk_mul 60 f) (pk_mul 60 g) hp (by omega) (by omega) (by omega) c2 rfl rfl, ?_⟩; refine ab_q1_elim ?_)
                rw [lkB_c (rowl f hf) (rowl g hg)]
                cases hc : lkB (phi M) (tv M (f * k) (A f)) (tv M (g * k) (A g))
                · refine And.intro (fun _ => ?_) (fun h_9 => absurd (rfl) h_9)
                  rw [hc] at ih4
                  exact ab_ev_of ih4 (by rw [nI_s g]; rfl) rfl rfl
                · refine And.intro (fun h_9 => absurd h_9 ((by decide))) (fun _ => ?_)
                  rw [hc, if_pos rfl] at ih4
                  exact ab_ev_of ih4 (by rw [nI_s g, nI_s (cnt _ g)]; rfl) rfl rfl
            exact ab_ev_of (inn 0 (by omega)) rfl rfl rfl
      exact ab_ev_of (row 0 (by omega) b o l4 hs hl l7 l8) rfl rfl rfl
  have first : ∀ f, f ≤ M → ab_Ev X l i_Mod_right 24 [some (.ref 90), some (.int (nI t)), some (.int (nI (cnt (fun f => !thB M (A f)) f))), some (.int (nI f)), none, none, none, none, none] [] w2 n 0 0 Q := by
    refine ab_up M ?_ (fun f hf ih => ?_)
    · have bg := big 0 (by omega) w2 Fr.refl f6 k114 f7 k117 G0 none (-nI 1) (by rw [Nat.zero_mul]; exact ScIs.nil _ _) (fun y hy => by cases hy) none none none
      obtain ⟨w2, rfl⟩ := va_ex k90
      refine ab_sound ok_235 [24, 64] 80 ?_
      refine And.intro (fun _ => ?_) (fun h_9 => absurd ((by rw [c1]; exact nI_le (Nat.le_refl _) (by omega))) h_9)
      rw [hG0]
      exact ab_ev_of bg rfl rfl rfl
    · rw [cnt_s] at ih
      obtain ⟨w2, rfl⟩ := va_ex2 k90 h7
      refine ab_sound ok_235 [24, 64] 80 ?_
      refine And.intro (fun h_9 => absurd h_9 ((by rw [c1]; exact nI_ge hf (by omega)))) (fun _ => ?_)
      (refine Exists.intro 0 ?_; refine ⟨0, _, Nat.zero_le _, Nat.zero_le _, c_Mod_isNought_at (phi M) (60 * f) 3600 _ _ _ (pk_mul 60 f) hp (by omega) (by omega) c2 rfl rfl, ?_⟩; refine ab_q1_elim ?_)
      rw [no_th h8 hf]
      cases hb : thB M (A f)
      · refine And.intro (fun h_9 => absurd h_9 ((by decide))) (fun _ => ?_)
        rw [hb, if_pos (by rfl)] at ih
        exact ab_ev_of ih (by rw [nI_s f, nI_s (cnt _ f)]; rfl) rfl rfl
      · refine And.intro (fun _ => ?_) (fun h_9 => absurd (rfl) h_9)
        rw [hb] at ih
        exact ab_ev_of ih (by rw [nI_s f]; rfl) rfl rfl
  exact ab_ev_of (first 0 (by omega)) rfl rfl rfl
end MRIGHT
