section MMADE3
variable {X : ab_X} {l : Launch}
/-- a box as told: up to the sheet -/
theorem e_Mod_made (x y : Int32) (Rn Wn : Nat) (w : ab_W) (n : Nat) {s : Nat → Int32} {wd tn : Int64} {tb : Nat → Int32} {Q : ab_Q} (hy : y = nI Rn) (hR : 1 ≤ Rn ∧ Rn ≤ 12) (hW : 1 ≤ Wn ∧ Wn ≤ 12) (hb : ∀ i, i < Rn + Wn → nI 3 ≤ tb i ∧ tb i ≤ nI 200) (h90 : w 90 = oMod s wd tn) (hs : s 2 = nI (Rn + Wn)) (h91 : w 91 = aI 640 tb)
    (go : ab_Ev X l i_Mod_made 70 [some (.ref 90), some (.int x), some (.int (nI Rn)), some (.int (nI (Rn + Wn))), some (.int (nI (Rn + Wn))), none, none, none, none, none, none, none, none, none, none, none, none, none, none] [] (va_up w 90 (oMod (upd (upd s 0 (nI 0)) 2 (nI 0)) wd tn)) n 0 0 Q) :
    ab_Ev X l i_Mod_made 0 (ab_en (ab_mx i_Mod_made) [.ref 90, .int x, .int y]) [] w n 0 0 Q := by
  subst hy
  obtain ⟨w9, rfl⟩ := va_ex2 h90 h91
  refine ab_sound ok_241 [38] 80 ?_
  (refine Exists.intro 0 ?_; refine ⟨0, _, Nat.zero_le _, Nat.zero_le _, c_Mod_take _ _ (s := upd s 0 (nI 0)) rfl, ?_⟩; refine ab_q1_elim ?_)
  have hsub : nI (Rn + Wn) - nI Rn = nI Wn := by rw [pk_sub (by omega), show Rn + Wn - Rn = Wn by omega]
  rw [va_uu, show upd s 0 (nI 0) 2 = nI (Rn + Wn) from hs]
  (refine Exists.intro 0 ?_; refine ⟨0, _, Nat.zero_le _, Nat.zero_le _, c_Mod_isIn _ _ _ _ _, ?_⟩; refine ab_q1_elim ?_)
  rw [isIn_y ⟨nI_le (by omega) (by omega), nI_le (by omega) (by omega)⟩]
  refine And.intro (fun h_9 => absurd h_9 ((by decide))) (fun _ => ?_)
  (refine Exists.intro 0 ?_; refine ⟨0, _, Nat.zero_le _, Nat.zero_le _, c_Mod_isIn _ _ _ _ _, ?_⟩; refine ab_q1_elim ?_)
  rw [isIn_y (by rw [hsub]; exact ⟨nI_le (by omega) (by omega), nI_le (by omega) (by omega)⟩)]
  refine And.intro (fun _ => ?_) (fun h_9 => absurd h_9 ((by decide)))
  have loop : ∀ i, i ≤ Rn + Wn → ab_Ev X l i_Mod_made 38 [some (.ref 90), some (.int x), some (.int (nI Rn)), some (.int (nI (Rn + Wn))), some (.int (nI i)), none, none, none, none, none, none, none, none, none, none, none, none, none, none] [] (va_up (va_up (va_up w9 91 (aI 640 tb)) 90 (oMod s wd tn)) 90 (oMod (upd (upd s 0 (nI 0)) 2 (nI 0)) wd tn)) n 0 0 Q := by
    refine ab_up (Rn + Wn) ?_ (fun i hi ih => ?_)
    · refine ab_sound ok_241 [38, 70] 80 ?_
      refine And.intro (fun _ => ?_) (fun h_9 => absurd (nI_le (Nat.le_refl _) (by omega)) h_9)
      exact go
    · refine ab_sound ok_241 [38, 70] 80 ?_
      refine And.intro (fun h_9 => absurd h_9 (nI_ge hi (by omega))) (fun _ => ?_)
      refine And.intro (vp_in_nI (by omega) (by omega)) ?_
      rw [nI_clamp (by omega)]
      (refine Exists.intro 0 ?_; refine ⟨0, _, Nat.zero_le _, Nat.zero_le _, c_Mod_isIn _ _ _ _ _, ?_⟩; refine ab_q1_elim ?_)
      rw [isIn_y (hb i hi)]
      refine And.intro (fun _ => ?_) (fun h_9 => absurd h_9 ((by decide)))
      exact ab_ev_of ih (by rw [nI_s i]; rfl) rfl rfl
  exact ab_ev_of (loop 0 (by omega)) rfl rfl rfl
theorem k_Mod_made_n (x y : Int32) (Rn Wn : Nat) (w : ab_W) (n : Nat) {s : Nat → Int32} {wd tn : Int64} {N : Nat → Nat} {R : Nat → Nat → Nat → Int64} {tb : Nat → Int32} (hx : badS N x) (hy : y = nI Rn) (hR : 1 ≤ Rn ∧ Rn ≤ 12) (hW : 1 ≤ Wn ∧ Wn ≤ 12) (hb : ∀ i, i < Rn + Wn → nI 3 ≤ tb i ∧ tb i ≤ nI 200) (h : MB w s wd tn N R) (hs : s 2 = nI (Rn + Wn)) (h91 : w 91 = aI 640 tb) :
    ab_C X l i_Mod_made [.ref 90, .int x, .int y] w n 0 0 (qI (-nI 1) (mQT w n s wd tn N R)) := by
  have hB0 : MB (va_up w 90 (oMod (upd (upd s 0 (nI 0)) 2 (nI 0)) wd tn)) (upd (upd s 0 (nI 0)) 2 (nI 0)) wd tn N R := h.setk (G := fun k => k = 0 ∨ k = 2) ((Fr.refl.us (by omega)).us (by omega)) (by omega) (by omega)
  refine ab_mqI cd_241 om_241 rfl (e_Mod_made x y Rn Wn w n hy hR hW hb h.1 hs h91 ?_)
  refine ab_sound ok_241 [] 80 ?_
  (refine Exists.intro 0 ?_; refine ⟨0, _, Nat.zero_le _, Nat.zero_le _, k_has_n _ _ _ hx hB0.1 hB0.2.2.1, ?_⟩; refine ab_q1_elim ?_)
  refine And.intro (fun h_9 => absurd (rfl) h_9) (fun _ => ?_)
  exact ⟨rfl, rfl, Fr.refl.up (by omega), _, (Fr.refl.us (by omega)).us (by omega), (upd_ne (by omega)).trans upd_at, upd_at, hB0⟩
theorem k_Mod_made (x y : Int32) (t Rn Wn : Nat) (w : ab_W) (n : Nat) {s : Nat → Int32} {wd tn : Int64} {N : Nat → Nat} {R : Nat → Nat → Nat → Int64} {tb a1 a2 a3 a4 : Nat → Int32} (hx : x = nI t) (ht : t < 8) (hN : N t ≠ 0) (hy : y = nI Rn) (hR : 1 ≤ Rn ∧ Rn ≤ 12) (hW : 1 ≤ Wn ∧ Wn ≤ 12) (hb : ∀ i, i < Rn + Wn → nI 3 ≤ tb i ∧ tb i ≤ nI 200) (h : MB w s wd tn N R) (hs : s 2 = nI (Rn + Wn)) (h91 : w 91 = aI 640 tb) (h130 : w 130 = aI 40 a1) (h131 : w 131 = aI 40 a2) (h132 : w 132 = aI 40 a3) (h133 : w 133 = aI 40 a4) :
    ab_C X l i_Mod_made [.ref 90, .int x, .int y] w n 0 0 (fun v w' n' => ∃ s', mQZ w n s wd tn N R s' w' n' ∧ (((¬ ∃ f g, TwoP (N t) (TBv (N t) (R t)) f g) ∧ v = some (.int (-nI 1)) ∧ s' 65 = s 65 ∧ w' 130 = aI 40 a1 ∧ w' 131 = aI 40 a2 ∧ w' 132 = aI 40 a3 ∧ w' 133 = aI 40 a4) ∨ ((∃ f g, TwoP (N t) (TBv (N t) (R t)) f g) ∧ v = some (.int (nI (cnt (hP (N t) Wn (TBv (N t) (R t)) (Gf tb) (Tf tb Rn)) (Rn * Wn * 2)))) ∧ s' 65 = nI (if cnt (hP (N t) Wn (TBv (N t) (R t)) (Gf tb) (Tf tb Rn)) (Rn * Wn * 2) < 40 then cnt (hP (N t) Wn (TBv (N t) (R t)) (Gf tb) (Tf tb Rn)) (Rn * Wn * 2) else 40) ∧ ∃ b1 b2 b3 b4, w' 130 = aI 40 b1 ∧ w' 131 = aI 40 b2 ∧ w' 132 = aI 40 b3 ∧ w' 133 = aI 40 b4 ∧ MkIs (hP (N t) Wn (TBv (N t) (R t)) (Gf tb) (Tf tb Rn)) (wR Wn) (wW Wn) wO (hZ (N t) Wn (TBv (N t) (R t)) (Gf tb) (Tf tb Rn)) (Rn * Wn * 2) b1 b2 b3 b4))) := by
  subst hx
  have hB0 : MB (va_up w 90 (oMod (upd (upd s 0 (nI 0)) 2 (nI 0)) wd tn)) (upd (upd s 0 (nI 0)) 2 (nI 0)) wd tn N R := h.setk (G := fun k => k = 0 ∨ k = 2) ((Fr.refl.us (by omega)).us (by omega)) (by omega) (by omega)
  refine ab_met cd_241 om_241 rfl ?_ (e_Mod_made (nI t) y Rn Wn w n hy hR hW hb h.1 hs h91 ?_)
  · rintro _ _ _ ⟨s', -, ⟨-, rfl, -⟩ | ⟨-, rfl, -⟩⟩ <;> trivial
  generalize hQ : (fun (v : Option Value) (w' : ab_W) (n' : Nat) => ∃ s', mQZ w n s wd tn N R s' w' n' ∧ (((¬ ∃ f g, TwoP (N t) (TBv (N t) (R t)) f g) ∧ v = some (.int (-nI 1)) ∧ s' 65 = s 65 ∧ w' 130 = aI 40 a1 ∧ w' 131 = aI 40 a2 ∧ w' 132 = aI 40 a3 ∧ w' 133 = aI 40 a4) ∨ ((∃ f g, TwoP (N t) (TBv (N t) (R t)) f g) ∧ v = some (.int (nI (cnt (hP (N t) Wn (TBv (N t) (R t)) (Gf tb) (Tf tb Rn)) (Rn * Wn * 2)))) ∧ s' 65 = nI (if cnt (hP (N t) Wn (TBv (N t) (R t)) (Gf tb) (Tf tb Rn)) (Rn * Wn * 2) < 40 then cnt (hP (N t) Wn (TBv (N t) (R t)) (Gf tb) (Tf tb Rn)) (Rn * Wn * 2) else 40) ∧ ∃ b1 b2 b3 b4, w' 130 = aI 40 b1 ∧ w' 131 = aI 40 b2 ∧ w' 132 = aI 40 b3 ∧ w' 133 = aI 40 b4 ∧ MkIs (hP (N t) Wn (TBv (N t) (R t)) (Gf tb) (Tf tb Rn)) (wR Wn) (wW Wn) wO (hZ (N t) Wn (TBv (N t) (R t)) (Gf tb) (Tf tb Rn)) (Rn * Wn * 2) b1 b2 b3 b4))) = Q
  refine ab_sound ok_241 [97] 80 ?_
  (refine Exists.intro 0 ?_; refine ⟨0, _, Nat.zero_le _, Nat.zero_le _, k_has_y _ t _ _ rfl ht hN hB0.1 hB0.2.1 hB0.2.2.1, ?_⟩; rintro _ w1 _ ⟨rfl, rfl, e1, s1, e2, e3, e4⟩)
  have hB1 := hB0.laid e1 e2 e4
  have f1 : Fr FM w w1 := (Fr.refl.up (by omega)).trans (e1.mono (fun k hk => by omega))
  have g1 : Fr GT s s1 := ((Fr.refl.us (by omega)).us (by omega)).trans (e3.mono (fun k hk => by omega))
  have g10 : s1 0 = nI 0 := e3.get ((upd_ne (by omega)).trans upd_at) (by omega)
  have g12 : s1 2 = nI 0 := e3.get upd_at (by omega)
  have g165 : s1 65 = s 65 := e3.get ((upd_ne (by omega)).trans (upd_ne (by omega))) (by omega)
  obtain ⟨hM, ⟨c1, c2⟩, pf, pg, ph, c3, c4, c5, c6⟩ := id e4
  have hp := phi_le _ hM.2
  have hp1 := phi_ge _ hM.2 hM.1
  obtain ⟨G, G1, G2⟩ := hB1.2.2.1.rows
  have hRr := G2 t ht
  obtain ⟨f4, h114⟩ := hB1.2.2.2.1
  obtain ⟨f7, h117⟩ := hB1.2.2.2.2.1
  obtain ⟨f8, h118⟩ := hB1.2.2.2.2.2
  have j91 := f1.get h91 (by omega)
  have j130 := f1.get h130 (by omega)
  have j131 := f1.get h131 (by omega)
  have j132 := f1.get h132 (by omega)
  have j133 := f1.get h133 (by omega)
  generalize hMe : N t = M at *
  obtain ⟨w1, rfl⟩ := va_ex e2
  refine And.intro (fun _ => ?_) (fun h_9 => absurd h_9 ((by decide)))
  (refine Exists.intro 0 ?_; refine ⟨0, _, Nat.zero_le _, Nat.zero_le _, k_layArms _ t M _ _ rfl ht hM rfl c1 c2 c5 c6 h114 G1 h118 hRr, ?_⟩; rintro _ w2 _ ⟨rfl, rfl, f5, h6, g7, h7, h8⟩)
  have hB2 : MB w2 s1 wd tn N R := hB1.wr f5 (fun k hk => by omega) h6 ⟨f7, f5.get h117 (by omega)⟩ ⟨g7, h7⟩
  have k90 : w2 90 = oMod s1 wd tn := hB2.1
  have f2 := f1.tr (H := fun k => FM k ∨ (130 ≤ k ∧ k ≤ 133)) f5 (fun k hk => by omega) (fun k hk => by omega)
  have k91 := f5.get j91 (by omega)
  have k130 := f5.get j130 (by omega)
  have k131 := f5.get j131 (by omega)
  have k132 := f5.get j132 (by omega)
  have k133 := f5.get j133 (by omega)
  generalize hAe : TBv M (R t) = A at *
  have none_ : (¬ ∃ f g, TwoP M A f g) → Q (some (.int (-nI 1))) w2 n := by
    intro h2
    subst hQ
    exact ⟨s1, ⟨rfl, f2, g1.mono (fun k hk => Or.inl hk), g10, g12, hB2⟩, Or.inl ⟨h2, rfl, g165, k130, k131, k132, k133⟩⟩
  generalize hPe : hP M Wn A (Gf tb) (Tf tb Rn) = P at *
  generalize hZe : hZ M Wn A (Gf tb) (Tf tb Rn) = Z at *
  have hRW : Rn * Wn ≤ 12 * 12 := Nat.mul_le_mul hR.2 hW.2
  have ways : ∀ f g, TwoP M A f g → ab_Ev X l i_Mod_made 176 [some (.ref 90), some (.int (nI t)), some (.int (nI Rn)), some (.int (nI (Rn + Wn))), some (.int (nI f)), some (.int (nI g)), some (.int (nI 2)), some (.int (nI M)), none, none, none, none, none, none, none, none, none, none, none] [] w2 n 0 0 Q := by
    intro f g h2
    have hfg := h2
    obtain ⟨p1, p2, p3, p4, p5, p6, p7⟩ := hfg
    have fin : ∀ w3 b1 b2 b3 b4, Fr (fun k => 130 ≤ k ∧ k ≤ 133) w2 w3 → w3 130 = aI 40 b1 → w3 131 = aI 40 b2 → w3 132 = aI 40 b3 → w3 133 = aI 40 b4 → MkIs P (wR Wn) (wW Wn) wO Z (Rn * Wn * 2) b1 b2 b3 b4 → ∀ l8 l9 l10 : Option Value, ∀ l11 l12 l13 l14 l15 l16 l17 l18 : Option Value, ab_Ev X l i_Mod_made 476 [some (.ref 90), some (.int (nI t)), some (.int (nI Rn)), some (.int (nI (Rn + Wn))), some (.int (nI f)), some (.int (nI g)), some (.int (nI 2)), some (.int (nI (cnt P (Rn * Wn * 2)))), l8, l9, l10, l11, l12, l13, l14, l15, l16, l17, l18] [] w3 n 0 0 Q := by
      intro w3 b1 b2 b3 b4 hf h30 h31 h32 h33 hk l8 l9 l10 l11 l12 l13 l14 l15 l16 l17 l18
      have hcl := cnt_le P (Rn * Wn * 2)
      generalize cnt P (Rn * Wn * 2) = c at *
      have z90 := hf.get k90 (by omega)
      have last : ∀ v : Nat, Q (some (.int (nI c))) (va_up w3 90 (oMod (upd s1 65 (nI v)) wd tn)) n ∨ v ≠ (if c < 40 then c else 40) := by
        intro v
        by_cases ev : v = (if c < 40 then c else 40)
        · left
          have fw : Fr (fun k => k = 90 ∨ (130 ≤ k ∧ k ≤ 133)) w2 (va_up w3 90 (oMod (upd s1 65 (nI v)) wd tn)) := (hf.mono (fun k hk => by omega)).up (by omega)
          have fs : Fr (fun k => k = 65) s1 (upd s1 65 (nI v)) := Fr.refl.us rfl
          subst hQ
          refine ⟨upd s1 65 (nI v), ⟨rfl, f2.tr fw (fun k hk => hk) (fun k hk => by omega), g1.tr fs (fun k hk => Or.inl hk) (fun k hk => Or.inr hk), fs.get g10 (by omega), fs.get g12 (by omega), ?_⟩, Or.inr ⟨⟨f, g, h2⟩, rfl, by rw [upd_at, ev], b1, b2, b3, b4, (va_un (by omega)).trans h30, (va_un (by omega)).trans h31, (va_un (by omega)).trans h32, (va_un (by omega)).trans h33, hk⟩⟩
          obtain ⟨m0, m1, m2, ⟨m3, m4⟩, ⟨m5, m6⟩, m7, m8⟩ := hB2
          exact ⟨va_us, m1.fr fw fs (by omega) (by omega) (by omega) (by omega) (by omega), m2.fr fw (by omega) (by omega), ⟨m3, fw.get m4 (by omega)⟩, ⟨m5, fw.get m6 (by omega)⟩, m7, fw.get m8 (by omega)⟩
        · exact Or.inr ev
      obtain ⟨w3, rfl⟩ := va_ex z90
      refine ab_sound ok_241 [] 80 ?_
      by_cases e : c < 40
      · refine And.intro (fun h_9 => absurd h_9 (nI_ge e (by omega))) (fun _ => ?_)
        exact (last c).resolve_right (fun z => z (by rw [if_pos e]))
      · refine And.intro (fun _ => ?_) (fun h_9 => absurd (nI_le (by omega) (by omega)) h_9)
        exact (last 40).resolve_right (fun z => z (by rw [if_neg e]))
    have rows : ∀ r, r ≤ Rn → ∀ w3 b1 b2 b3 b4, Fr (fun k => 130 ≤ k ∧ k ≤ 133) w2 w3 → w3 130 = aI 40 b1 → w3 131 = aI 40 b2 → w3 132 = aI 40 b3 → w3 133 = aI 40 b4 → MkIs P (wR Wn) (wW Wn) wO Z (r * Wn * 2) b1 b2 b3 b4 → ∀ l9 l10 : Option Value, ∀ l11 l12 l13 l14 l15 l16 l17 l18 : Option Value, ab_Ev X l i_Mod_made 182 [some (.ref 90), some (.int (nI t)), some (.int (nI Rn)), some (.int (nI (Rn + Wn))), some (.int (nI f)), some (.int (nI g)), some (.int (nI 2)), some (.int (nI (cnt P (r * Wn * 2)))), some (.int (nI r)), l9, l10, l11, l12, l13, l14, l15, l16, l17, l18] [] w3 n 0 0 Q := by
      refine ab_up Rn ?_ (fun r hr ih => ?_)
      · intro w3 b1 b2 b3 b4 hf h30 h31 h32 h33 hk l9 l10 l11 l12 l13 l14 l15 l16 l17 l18
        refine ab_sound ok_241 [476] 80 ?_
        refine And.intro (fun _ => ?_) (fun h_9 => absurd (nI_le (Nat.le_refl _) (by omega)) h_9)
        exact fin w3 b1 b2 b3 b4 hf h30 h31 h32 h33 hk _ l9 l10 l11 l12 l13 l14 l15 l16 l17 l18
      · intro w3 b1 b2 b3 b4 hf h30 h31 h32 h33 hk l9 l10 l11 l12 l13 l14 l15 l16 l17 l18
        have cols : ∀ j, j ≤ Wn → ∀ w3 b1 b2 b3 b4, Fr (fun k => 130 ≤ k ∧ k ≤ 133) w2 w3 → w3 130 = aI 40 b1 → w3 131 = aI 40 b2 → w3 132 = aI 40 b3 → w3 133 = aI 40 b4 → MkIs P (wR Wn) (wW Wn) wO Z ((r * Wn + j) * 2) b1 b2 b3 b4 → ∀ l10 : Option Value, ∀ l11 l12 l13 l14 l15 l16 l17 l18 : Option Value, ab_Ev X l i_Mod_made 191 [some (.ref 90), some (.int (nI t)), some (.int (nI Rn)), some (.int (nI (Rn + Wn))), some (.int (nI f)), some (.int (nI g)), some (.int (nI 2)), some (.int (nI (cnt P ((r * Wn + j) * 2)))), some (.int (nI r)), some (.int (nI (Rn + j))), l10, l11, l12, l13, l14, l15, l16, l17, l18] [] w3 n 0 0 Q := by
          refine ab_up Wn ?_ (fun j hj ih2 => ?_)
          · intro w3 b1 b2 b3 b4 hf h30 h31 h32 h33 hk l10 l11 l12 l13 l14 l15 l16 l17 l18
            rw [show (r * Wn + Wn) * 2 = (r + 1) * Wn * 2 by rw [Nat.add_mul r 1 Wn, Nat.one_mul]] at hk ⊢
            refine ab_sound ok_241 [182] 80 ?_
            refine And.intro (fun _ => ?_) (fun h_9 => absurd (nI_le (Nat.le_refl _) (by omega)) h_9)
            exact ab_ev_of (ih w3 b1 b2 b3 b4 hf h30 h31 h32 h33 hk (some (.int (nI (Rn + Wn)))) l10 l11 l12 l13 l14 l15 l16 l17 l18) (by rw [nI_s r]; rfl) rfl rfl
          · intro w3 b1 b2 b3 b4 hf h30 h31 h32 h33 hk l10 l11 l12 l13 l14 l15 l16 l17 l18
            obtain ⟨r1, r2, r3⟩ := tN_at (hb r (by omega))
            obtain ⟨t1, t2, t3⟩ := tN_at (hb (Rn + j) (by omega))
            have hTf : Tf tb Rn j = tN tb (Rn + j) := rfl
            have hGf : Gf tb r = tN tb r := rfl
            generalize hGG : tN tb r = G9 at *
            generalize hTT : tN tb (Rn + j) = T9 at *
            have hm9 : (r * Wn + j) * 2 + 2 ≤ Rn * Wn * 2 := by
              have : (r + 1) * Wn ≤ Rn * Wn := Nat.mul_le_mul_right _ (by omega)
              rw [Nat.add_mul, Nat.one_mul] at this
              omega
            -- one way
            have one : ∀ on, on < 2 → (∀ w3 b1 b2 b3 b4, Fr (fun k => 130 ≤ k ∧ k ≤ 133) w2 w3 → w3 130 = aI 40 b1 → w3 131 = aI 40 b2 → w3 132 = aI 40 b3 → w3 133 = aI 40 b4 → MkIs P (wR Wn) (wW Wn) wO Z ((r * Wn + j) * 2 + on + 1) b1 b2 b3 b4 → ∀ l11 l12 l13 l14 l15 l16 l17 l18 : Option Value, ab_Ev X l i_Mod_made 200 [some (.ref 90), some (.int (nI t)), some (.int (nI Rn)), some (.int (nI (Rn + Wn))), some (.int (nI f)), some (.int (nI g)), some (.int (nI 2)), some (.int (nI (cnt P ((r * Wn + j) * 2 + on + 1)))), some (.int (nI r)), some (.int (nI (Rn + j))), some (.int (nI (on + 1))), l11, l12, l13, l14, l15, l16, l17, l18] [] w3 n 0 0 Q) → ∀ w3 b1 b2 b3 b4, Fr (fun k => 130 ≤ k ∧ k ≤ 133) w2 w3 → w3 130 = aI 40 b1 → w3 131 = aI 40 b2 → w3 132 = aI 40 b3 → w3 133 = aI 40 b4 → MkIs P (wR Wn) (wW Wn) wO Z ((r * Wn + j) * 2 + on) b1 b2 b3 b4 → ∀ l11 l12 l13 l14 l15 l16 l17 l18 : Option Value, ab_Ev X l i_Mod_made 200 [some (.ref 90), some (.int (nI t)), some (.int (nI Rn)), some (.int (nI (Rn + Wn))), some (.int (nI f)), some (.int (nI g)), some (.int (nI 2)), some (.int (nI (cnt P ((r * Wn + j) * 2 + on)))), some (.int (nI r)), some (.int (nI (Rn + j))), some (.int (nI on)), l11, l12, l13, l14, l15, l16, l17, l18] [] w3 n 0 0 Q := by
              intro on ho nxt w3 b1 b2 b3 b4 hf h30 h31 h32 h33 hk l11 l12 l13 l14 l15 l16 l17 l18
              obtain ⟨q1, q2, q3⟩ := wx_at (r := r) hj ho
              have hPm : P ((r * Wn + j) * 2 + on) = hitB M A G9 T9 on := by rw [← hPe]; unfold hP; rw [q1, q2, q3, hTf, hGf]
              have hZm : Z ((r * Wn + j) * 2 + on) = (spV M (A (oAt M G9 T9 on))).toInt32 := by rw [← hZe]; unfold hZ; rw [q1, q2, q3, hTf, hGf]
              have hcl := cnt_le P ((r * Wn + j) * 2 + on)
              have hcs := cnt_s P ((r * Wn + j) * 2 + on)
              have hyes := hk.yes
              have hno := hk.no
              have hfull := hk.full
              rw [q1, q2, q3] at hyes
              generalize hm : (r * Wn + j) * 2 + on = m at *
              generalize hc : cnt P m = c at *
              have z90 := hf.get k90 (by omega)
              have z91 := hf.get k91 (by omega)
              have z118 := hf.get h7 (by omega)
              have ha : aAt M G9 T9 < M := md_lt _ (by omega)
              have ho9 : oAt M G9 T9 on < M := md_lt _ (by omega)
              have skip : hitB M A G9 T9 on = false → ∀ l11 l12 l13 l14 l15 l16 l17 l18 : Option Value, ab_Ev X l i_Mod_made 458 [some (.ref 90), some (.int (nI t)), some (.int (nI Rn)), some (.int (nI (Rn + Wn))), some (.int (nI f)), some (.int (nI g)), some (.int (nI 2)), some (.int (nI c)), some (.int (nI r)), some (.int (nI (Rn + j))), some (.int (nI on)), l11, l12, l13, l14, l15, l16, l17, l18] [] w3 n 0 0 Q := by
                intro hh l11 l12 l13 l14 l15 l16 l17 l18
                rw [hh] at hPm
                have nx := nxt w3 b1 b2 b3 b4 hf h30 h31 h32 h33 (hno hPm) l11 l12 l13 l14 l15 l16 l17 l18
                rw [hcs, hPm] at nx
                refine ab_sound ok_241 [200] 80 ?_
                exact ab_ev_of nx (by rw [nI_s on]; rfl) rfl rfl
              have hit : hitB M A G9 T9 on = true → ∀ (z11 z12 z13 z14 z15 z16 : Int32), ab_Ev X l i_Mod_made 409 [some (.ref 90), some (.int (nI t)), some (.int (nI Rn)), some (.int (nI (Rn + Wn))), some (.int (nI f)), some (.int (nI g)), some (.int (nI 2)), some (.int (nI c)), some (.int (nI r)), some (.int (nI (Rn + j))), some (.int (nI on)), some (.int z11), some (.int z12), some (.int z13), some (.int z14), some (.int z15), some (.int z16), some (.long (spV M (A (oAt M G9 T9 on)))), none] [] w3 n 0 0 Q := by
                intro hh z11 z12 z13 z14 z15 z16
                rw [hh] at hPm
                rw [hcs, hPm, if_pos rfl] at nxt
                by_cases e : c < 40
                · have nx := fun w5 b1 b2 b3 b4 q0 q1 q2 q3 q4 q5 => nxt w5 b1 b2 b3 b4 q0 q1 q2 q3 q4 q5 (some (.int z11)) (some (.int z12)) (some (.int z13)) (some (.int z14)) (some (.int z15)) (some (.int z16)) (some (.long (spV M (A (oAt M G9 T9 on))))) none
                  obtain ⟨w3, rfl⟩ := va_ex5 z90 h30 h31 h32 h33
                  refine ab_sound ok_241 [200] 100 ?_
                  refine And.intro (fun h_9 => absurd h_9 (nI_ge e (by omega))) (fun _ => ?_)
                  refine And.intro (vp_in_nI e (by omega)) ?_
                  refine And.intro (vp_in_nI e (by omega)) ?_
                  refine And.intro (vp_in_nI e (by omega)) ?_
                  refine And.intro (vp_in_nI e (by omega)) ?_
                  rw [nI_clamp (by omega), pk_sub (by omega), show Rn + j - Rn = j by omega, ← hZm]
                  refine ab_ev_of (nx _ _ _ _ _ ((((hf.up (by omega)).up (by omega)).up (by omega)).up (by omega)) rfl rfl rfl rfl hyes) (by rw [nI_s on, nI_s c]; rfl) rfl rfl
                · have nx := nxt w3 b1 b2 b3 b4 hf h30 h31 h32 h33 (hfull (by omega)) (some (.int z11)) (some (.int z12)) (some (.int z13)) (some (.int z14)) (some (.int z15)) (some (.int z16)) (some (.long (spV M (A (oAt M G9 T9 on))))) none
                  refine ab_sound ok_241 [200] 100 ?_
                  refine And.intro (fun _ => ?_) (fun h_9 => absurd (nI_le (by omega) (by omega)) h_9)
                  exact ab_ev_of nx (by rw [nI_s on, nI_s c]; rfl) rfl rfl
              have pair : (on = 0 → T9 < G9) → ((aAt M G9 T9 = f ∧ oAt M G9 T9 on = g) ∨ (aAt M G9 T9 = g ∧ oAt M G9 T9 on = f)) → ∀ (z11 z12 z13 : Int32), ∀ l17 l18 : Option Value, ab_Ev X l i_Mod_made 347 [some (.ref 90), some (.int (nI t)), some (.int (nI Rn)), some (.int (nI (Rn + Wn))), some (.int (nI f)), some (.int (nI g)), some (.int (nI 2)), some (.int (nI c)), some (.int (nI r)), some (.int (nI (Rn + j))), some (.int (nI on)), some (.int z11), some (.int z12), some (.int z13), some (.int (nI (aAt M G9 T9))), some (.int (nI (oAt M G9 T9 on))), some (.int (Int32.ofInt (spZ G9 T9 on))), l17, l18] [] w3 n 0 0 Q := by
                intro hsk hpc z11 z12 z13 l17 l18
                have hne : aAt M G9 T9 ≠ oAt M G9 T9 on := by omega
                have hth : ∀ c, c = f ∨ c = g → spV M (A c) = A c 0 / lN M ∧ spV M (A c) ≠ 0 := by
                  intro c hc
                  rcases hc with rfl | rfl
                  · exact sp_ne p3 p6
                  · exact sp_ne p4 p7
                obtain ⟨x1, x2⟩ := hth (aAt M G9 T9) (by omega)
                obtain ⟨x3, x4⟩ := hth (oAt M G9 T9 on) (by omega)
                have g8a := h8 (aAt M G9 T9) 0 ha (by omega)
                have g8o := h8 (oAt M G9 T9 on) 0 ho9 (by omega)
                rw [Nat.add_zero] at g8a g8o
                have hsp : (Int32.ofInt (spZ G9 T9 on)).toInt64 = Int64.ofInt (spZ G9 T9 on) := by
                  have hb9 : -1000 < spZ G9 T9 on ∧ spZ G9 T9 on < 1000 := by
                    unfold spZ
                    split <;> omega
                  apply Int64.toInt_inj.mp
                  rw [Int32.toInt_toInt64, Int32.toInt_ofInt_of_le (by omega) (by omega), Int64.toInt_ofInt_of_le (by omega) (by omega)]
                have skip := skip
                have hit := hit
                obtain ⟨w3, rfl⟩ := va_ex2 z90 z118
                refine ab_sound ok_241 [409, 458] 100 ?_
                refine And.intro ((by rw [pk_mul]; exact vp_in_nI (by omega) (by omega))) ?_
                refine And.intro ((by rw [c1]; exact lNn0 (by omega) (by omega))) ?_
                refine And.intro ((by rw [pk_mul]; exact vp_in_nI (by omega) (by omega))) ?_
                refine And.intro ((by rw [c1]; exact lNn0 (by omega) (by omega))) ?_
                rw [pk_mul, pk_mul, nI_clamp (by omega), nI_clamp (by omega), g8a, g8o, c1, nI_l (by omega), ← x1, ← x3]
                refine And.intro (fun e1 => ?_) (fun e1 => ?_)
                · rw [lg_ne0, hsp] at e1
                  exact skip (decide_eq_false (fun z => e1 z.2.2.1)) _ _ _ _ _ _ _ _
                · rw [lg_eq, hsp] at e1
                  refine And.intro (fun e2 => ?_) (fun e2 => ?_)
                  · have e2 : spV M (A (oAt M G9 T9 on)) < (-200 : Int64) := lg_lt.mp e2
                    refine skip (decide_eq_false (fun z => ?_)) _ _ _ _ _ _ _ _
                    have := z.2.2.2.2.2
                    rw [i64_le] at this
                    rw [i64_lt] at e2
                    omega
                  · have e2 : ¬ spV M (A (oAt M G9 T9 on)) < (-200 : Int64) := fun z => e2 (lg_lt.mpr z)
                    refine And.intro (fun e3 => ?_) (fun e3 => ?_)
                    · have e3 : spV M (A (oAt M G9 T9 on)) ≤ (200 : Int64) := lg_le.mp e3
                      refine hit (decide_eq_true ⟨hsk, hne, e1, x4, e3, ?_⟩) _ _ _ _ _ _
                      rw [i64_lt] at e2
                      rw [i64_le]
                      omega
                    · have e3 : ¬ spV M (A (oAt M G9 T9 on)) ≤ (200 : Int64) := fun z => e3 (lg_le.mpr z)
                      exact skip (decide_eq_false (fun z => e3 z.2.2.2.2.1)) _ _ _ _ _ _ _ _
              have third : (on = 0 → T9 < G9) → ∀ (z11 z12 z13 sp : Int32), sp = Int32.ofInt (spZ G9 T9 on) → ∀ l16 l17 l18 : Option Value, ab_Ev X l i_Mod_made 314 [some (.ref 90), some (.int (nI t)), some (.int (nI Rn)), some (.int (nI (Rn + Wn))), some (.int (nI f)), some (.int (nI g)), some (.int (nI 2)), some (.int (nI c)), some (.int (nI r)), some (.int (nI (Rn + j))), some (.int (nI on)), some (.int z11), some (.int z12), some (.int z13), some (.int (nI (aAt M G9 T9))), some (.int (nI (oAt M G9 T9 on))), l16, l17, l18] [.int sp] w3 n 0 0 Q := by
                intro hsk z11 z12 z13 sp hsp l16 l17 l18
                subst hsp
                have nopair : ¬ ((aAt M G9 T9 = f ∧ oAt M G9 T9 on = g) ∨ (aAt M G9 T9 = g ∧ oAt M G9 T9 on = f)) → hitB M A G9 T9 on = false := fun z => by
                  cases hh : hitB M A G9 T9 on
                  · rfl
                  · exact absurd (hit_pair hM h2 ⟨r2, r3⟩ ⟨t2, t3⟩ hh) z
                have eqn : ∀ a b : Nat, a < M → b < M → (nI a = nI b ↔ a = b) := fun a b h1 h2 => nI_eq (by omega) (by omega)
                have hfM : f < M := by omega
                refine ab_sound ok_241 [347, 458] 100 ?_
                refine And.intro (fun e1 => ?_) (fun e1 => ?_)
                · have e1 : ¬ aAt M G9 T9 = f := fun z => e1 ((eqn _ _ ha hfM).mpr z)
                  refine And.intro (fun e2 => ?_) (fun e2 => ?_)
                  · have e2 : ¬ aAt M G9 T9 = g := fun z => e2 ((eqn _ _ ha p2).mpr z)
                    exact skip (nopair (by omega)) _ _ _ _ _ _ _ _
                  · have e2 : aAt M G9 T9 = g := (eqn _ _ ha p2).mp e2
                    refine And.intro (fun e3 => ?_) (fun e3 => ?_)
                    · have e3 : oAt M G9 T9 on = f := (eqn _ _ ho9 hfM).mp e3
                      exact pair hsk (by omega) _ _ _ _ _
                    · have e3 : ¬ oAt M G9 T9 on = f := fun z => e3 ((eqn _ _ ho9 hfM).mpr z)
                      exact skip (nopair (by omega)) _ _ _ _ _ _ _ _
                · have e1 : aAt M G9 T9 = f := (eqn _ _ ha hfM).mp e1
                  refine And.intro (fun e2 => ?_) (fun e2 => ?_)
                  · have e2 : oAt M G9 T9 on = g := (eqn _ _ ho9 p2).mp e2
                    exact pair hsk (by omega) _ _ _ _ _
                  · have e2 : ¬ oAt M G9 T9 on = g := fun z => e2 ((eqn _ _ ho9 p2).mpr z)
                    refine And.intro (fun e3 => ?_) (fun e3 => ?_)
                    · exact skip (nopair (by omega)) _ _ _ _ _ _ _ _
                    · have e3 : aAt M G9 T9 = g := (eqn _ _ ha p2).mp e3
                      omega
              have second : (on = 0 → T9 < G9) → ∀ (u : Int32), u.toInt = upZ G9 T9 on → ∀ l15 l16 l17 l18 : Option Value, ab_Ev X l i_Mod_made 285 [some (.ref 90), some (.int (nI t)), some (.int (nI Rn)), some (.int (nI (Rn + Wn))), some (.int (nI f)), some (.int (nI g)), some (.int (nI 2)), some (.int (nI c)), some (.int (nI r)), some (.int (nI (Rn + j))), some (.int (nI on)), some (.int (nI G9)), some (.int (nI T9)), some (.int (nI T9 / nI (Nat.gcd G9 T9))), some (.int (nI (aAt M G9 T9))), l15, l16, l17, l18] [.int u, .long (nI T9 / nI (Nat.gcd G9 T9)).toInt64, .ref 90] w3 n 0 0 Q := by
                intro hsk u hu l15 l16 l17 l18
                obtain ⟨y1, y2⟩ := way_at hM ⟨r2, r3⟩ ⟨t2, t3⟩ hu
                have third := third hsk
                obtain ⟨w3, rfl⟩ := va_ex z90
                refine ab_sound ok_241 [314] 100 ?_
                refine And.intro ((lNn0 (by omega) (by omega))) ?_
                (refine Exists.intro 0 ?_; refine ⟨0, _, Nat.zero_le _, Nat.zero_le _, c_Mod_by _ M (by omega) (by omega) _ _ rfl c1, ?_⟩; refine ab_q1_elim ?_)
                rw [y2, show md (upZ G9 T9 on / ((Nat.gcd G9 T9 : Nat) : Int)) M = oAt M G9 T9 on from rfl]
                by_cases e : on = 0
                · subst e
                  have hlt := hsk rfl
                  refine And.intro (fun h_9 => absurd (rfl) h_9) (fun _ => ?_)
                  refine third _ _ _ _ ?_ _ _ _
                  unfold spZ
                  rw [if_pos rfl, pk_sub (by omega)]
                  have : (G9 : Int) - (T9 : Int) = ((G9 - T9 : Nat) : Int) := by omega
                  rw [this]
                  rfl
                · refine And.intro (fun _ => ?_) (fun h_9 => absurd h_9 (nI_ne0 (by omega) (by omega)))
                  refine third _ _ _ _ ?_ _ _ _
                  unfold spZ
                  rw [if_neg e, nI_add]
                  rfl
              have first : (on = 0 → T9 < G9) → ∀ l13 l14 l15 l16 l17 l18 : Option Value, ab_Ev X l i_Mod_made 239 [some (.ref 90), some (.int (nI t)), some (.int (nI Rn)), some (.int (nI (Rn + Wn))), some (.int (nI f)), some (.int (nI g)), some (.int (nI 2)), some (.int (nI c)), some (.int (nI r)), some (.int (nI (Rn + j))), some (.int (nI on)), some (.int (nI G9)), some (.int (nI T9)), l13, l14, l15, l16, l17, l18] [] w3 n 0 0 Q := by
                intro hsk l13 l14 l15 l16 l17 l18
                have second := second hsk
                obtain ⟨y1, -⟩ := way_at (u := Int32.ofInt (upZ G9 T9 on)) (on := on) hM ⟨r2, r3⟩ ⟨t2, t3⟩ (Int32.toInt_ofInt_of_le (by unfold upZ; split <;> omega) (by unfold upZ; split <;> omega))
                have hd1 : 1 ≤ Nat.gcd G9 T9 := Nat.gcd_pos_of_pos_left _ (by omega)
                have hd2 : Nat.gcd G9 T9 ≤ 200 := Nat.le_trans (Nat.gcd_le_left _ (by omega)) r3
                have hG64 : (nI G9).toInt64.toInt = (G9 : Int) := by rw [Int32.toInt_toInt64, nI_toInt (by omega)]
                have hT64 : (nI T9).toInt64.toInt = (T9 : Int) := by rw [Int32.toInt_toInt64, nI_toInt (by omega)]
                obtain ⟨w3, rfl⟩ := va_ex z90
                refine ab_sound ok_241 [285] 100 ?_
                (refine Exists.intro 0 ?_; refine ⟨0, _, Nat.zero_le _, Nat.zero_le _, c_Mod_divisor _ _ (by rw [hG64]; omega) (by rw [hT64]; omega) _ _, ?_⟩; refine ab_q1_elim ?_)
                rw [hG64, hT64, Int.natAbs_natCast, Int.natAbs_natCast]
                refine And.intro ((by rw [lN_i]; exact nI_ne0 (by omega) (by omega))) ?_
                rw [lN_i]
                (refine Exists.intro 0 ?_; refine ⟨0, _, Nat.zero_le _, Nat.zero_le _, c_Mod_by _ M (by omega) (by omega) _ _ rfl c1, ?_⟩; refine ab_q1_elim ?_)
                rw [Int32.toInt_toInt64, y1, show md ((T9 / Nat.gcd G9 T9 : Nat) : Int) M = aAt M G9 T9 from rfl]
                by_cases e : on = 0
                · subst e
                  refine And.intro (fun h_9 => absurd (rfl) h_9) (fun _ => ?_)
                  refine second _ ?_ _ _ _ _
                  rw [pk_sub_toInt (by omega) (by omega)]
                  unfold upZ
                  rw [if_pos rfl]
                · refine And.intro (fun _ => ?_) (fun h_9 => absurd h_9 (nI_ne0 (by omega) (by omega)))
                  refine second _ ?_ _ _ _ _
                  rw [nI_add, nI_toInt (by omega)]
                  unfold upZ
                  rw [if_neg e]
                  omega
              obtain ⟨w3, rfl⟩ := va_ex2 z90 z91
              refine ab_sound ok_241 [239, 458] 100 ?_
              refine And.intro (fun h_9 => absurd h_9 (nI_ge ho (by omega))) (fun _ => ?_)
              refine And.intro (vp_in_nI (by omega) (by omega)) ?_
              refine And.intro (vp_in_nI (by omega) (by omega)) ?_
              rw [nI_clamp (by omega), nI_clamp (by omega), r1, t1]
              by_cases e : on = 0
              · subst e
                refine And.intro (fun h_9 => absurd (rfl) h_9) (fun _ => ?_)
                by_cases e2 : T9 < G9
                · refine And.intro (fun _ => ?_) (fun h_9 => absurd (nI_lt e2 (by omega)) h_9)
                  exact first (fun _ => e2) _ _ _ _ _ _
                · refine And.intro (fun h_9 => absurd h_9 (nI_nlt (by omega) (by omega))) (fun _ => ?_)
                  exact skip (decide_eq_false (fun z => e2 (z.1 rfl))) _ _ _ _ _ _ _ _
              · refine And.intro (fun _ => ?_) (fun h_9 => absurd h_9 (nI_ne0 (by omega) (by omega)))
                exact first (fun z => absurd z e) _ _ _ _ _ _
            have stop : ∀ w3 b1 b2 b3 b4, Fr (fun k => 130 ≤ k ∧ k ≤ 133) w2 w3 → w3 130 = aI 40 b1 → w3 131 = aI 40 b2 → w3 132 = aI 40 b3 → w3 133 = aI 40 b4 → MkIs P (wR Wn) (wW Wn) wO Z ((r * Wn + j) * 2 + 1 + 1) b1 b2 b3 b4 → ∀ l11 l12 l13 l14 l15 l16 l17 l18 : Option Value, ab_Ev X l i_Mod_made 200 [some (.ref 90), some (.int (nI t)), some (.int (nI Rn)), some (.int (nI (Rn + Wn))), some (.int (nI f)), some (.int (nI g)), some (.int (nI 2)), some (.int (nI (cnt P ((r * Wn + j) * 2 + 1 + 1)))), some (.int (nI r)), some (.int (nI (Rn + j))), some (.int (nI (1 + 1))), l11, l12, l13, l14, l15, l16, l17, l18] [] w3 n 0 0 Q := by
              intro w3 b1 b2 b3 b4 hf h30 h31 h32 h33 hk l11 l12 l13 l14 l15 l16 l17 l18
              rw [show (r * Wn + j) * 2 + 1 + 1 = (r * Wn + (j + 1)) * 2 by omega] at hk ⊢
              refine ab_sound ok_241 [191] 80 ?_
              refine And.intro (fun _ => ?_) (fun h_9 => absurd (nI_le (Nat.le_refl _) (by omega)) h_9)
              exact ab_ev_of (ih2 w3 b1 b2 b3 b4 hf h30 h31 h32 h33 hk (some (.int (nI 2))) l11 l12 l13 l14 l15 l16 l17 l18) (by rw [show Rn + (j + 1) = Rn + j + 1 by omega, nI_s (Rn + j)]; rfl) rfl rfl
            refine ab_sound ok_241 [200] 80 ?_
            refine And.intro (fun h_9 => absurd h_9 (nI_ge (by omega) (by omega))) (fun _ => ?_)
            exact ab_ev_of (one 0 (by omega) (one 1 (by omega) stop) w3 b1 b2 b3 b4 hf h30 h31 h32 h33 hk l11 l12 l13 l14 l15 l16 l17 l18) rfl rfl rfl
        refine ab_sound ok_241 [191] 80 ?_
        refine And.intro (fun h_9 => absurd h_9 (nI_ge hr (by omega))) (fun _ => ?_)
        exact ab_ev_of (cols 0 (by omega) w3 b1 b2 b3 b4 hf h30 h31 h32 h33 hk l10 l11 l12 l13 l14 l15 l16 l17 l18) rfl rfl rfl
    refine ab_sound ok_241 [182] 80 ?_
    refine ab_ev_of (rows 0 (by omega) w2 a1 a2 a3 a4 Fr.refl k130 k131 k132 k133 (fun x hx => by omega) none none none none none none none none none none) ?_ rfl rfl
    rw [Nat.zero_mul, Nat.zero_mul]
    rfl
  have two_in : ∀ f g j, TwoP M A f g → j < M → thB M (A j) = true → j = f ∨ j = g := by
    rintro f g j ⟨p1, p2, p3, p4, p5, p6, p7⟩ hj hth
    by_cases e1 : j = f
    · exact Or.inl e1
    · by_cases e2 : j = g
      · exact Or.inr e2
      · rw [p5 j hj e1 e2] at hth; cases hth
  have scan : ∀ k, k ≤ M → ∀ l4 l5 l6 : Int32, SCN M A k l4 l5 l6 → ab_Ev X l i_Mod_made 97 [some (.ref 90), some (.int (nI t)), some (.int (nI Rn)), some (.int (nI (Rn + Wn))), some (.int l4), some (.int l5), some (.int l6), some (.int (nI k)), none, none, none, none, none, none, none, none, none, none, none] [] w2 n 0 0 Q := by
    refine ab_up M ?_ (fun k hk ih => ?_)
    · intro l4 l5 l6 hsc
      rcases hsc with ⟨rfl, rfl, rfl, d⟩ | ⟨f, h1, rfl, rfl, rfl, h5, h6, h7⟩ | ⟨f, g, h1, h2, rfl, rfl, rfl, h6, h7, h8, h9, h10⟩
      · have nn := none_ (fun ⟨f, g, z⟩ => by have := d f (by have := z.1; have := z.2.1; omega); rw [z.2.2.1] at this; cases this)
        obtain ⟨w2, rfl⟩ := va_ex k90
        refine ab_sound ok_241 [97] 80 ?_
        refine And.intro (fun _ => ?_) (fun h_9 => absurd ((by rw [c1]; exact nI_le (Nat.le_refl _) (by omega))) h_9)
        refine And.intro (fun h_9 => absurd h_9 ((by decide))) (fun _ => ?_)
        exact nn
      · have nn := none_ (fun ⟨a, b, z⟩ => by
          have e1 : a = f := Classical.byContradiction (fun q => by have := h7 a (by have := z.1; have := z.2.1; omega) q; rw [z.2.2.1] at this; cases this)
          have e2 : b = f := Classical.byContradiction (fun q => by have := h7 b z.2.1 q; rw [z.2.2.2.1] at this; cases this)
          have := z.1
          omega)
        obtain ⟨w2, rfl⟩ := va_ex k90
        refine ab_sound ok_241 [97] 80 ?_
        refine And.intro (fun _ => ?_) (fun h_9 => absurd ((by rw [c1]; exact nI_le (Nat.le_refl _) (by omega))) h_9)
        refine And.intro (fun h_9 => absurd h_9 ((by decide))) (fun _ => ?_)
        exact nn
      · have ways := ways f g ⟨h1, h2, h6, h7, h10, h8, h9⟩
        obtain ⟨w2, rfl⟩ := va_ex k90
        refine ab_sound ok_241 [97, 176] 80 ?_
        refine And.intro (fun _ => ?_) (fun h_9 => absurd ((by rw [c1]; exact nI_le (Nat.le_refl _) (by omega))) h_9)
        refine And.intro (fun _ => ?_) (fun h_9 => absurd (rfl) h_9)
        exact ways
    · intro l4 l5 l6 hsc
      have nn := none_
      obtain ⟨w2, rfl⟩ := va_ex2 k90 h7
      refine ab_sound ok_241 [97] 80 ?_
      refine And.intro (fun h_9 => absurd h_9 ((by rw [c1]; exact nI_ge hk (by omega)))) (fun _ => ?_)
      (refine Exists.intro 0 ?_; refine ⟨0, _, Nat.zero_le _, Nat.zero_le _, c_Mod_isNought_at (phi M) (60 * k) 3600 _ _ _ (pk_mul 60 k) hp (by omega) (by omega) c2 rfl rfl, ?_⟩; refine ab_q1_elim ?_)
      rw [no_th h8 hk]
      cases hb9 : thB M (A k)
      · refine And.intro (fun h_9 => absurd h_9 ((by decide))) (fun _ => ?_)
        exact ab_ev_of (ih l4 l5 l6 (hsc.no hb9)) (by rw [nI_s k]; rfl) rfl rfl
      · refine And.intro (fun _ => ?_) (fun h_9 => absurd (rfl) h_9)
        (refine Exists.intro 0 ?_; refine ⟨0, _, Nat.zero_le _, Nat.zero_le _, c_Mod_isPlain _ k M _ _ rfl hk hM rfl c1 c2 rfl h8, ?_⟩; refine ab_q1_elim ?_)
        cases hb8 : plB M (A k)
        · refine And.intro (fun _ => ?_) (fun h_9 => absurd (rfl) h_9)
          exact nn (fun ⟨f, g, z⟩ => by
            have q6 := z.2.2.2.2.2.1
            have q7 := z.2.2.2.2.2.2
            rcases two_in f g k z hk hb9 with e | e
            · rw [← e, hb8] at q6; cases q6
            · rw [← e, hb8] at q7; cases q7)
        · refine And.intro (fun h_9 => absurd h_9 ((by decide))) (fun _ => ?_)
          rcases hsc with ⟨rfl, rfl, rfl, d⟩ | ⟨f, h1, rfl, rfl, rfl, h5, h6, h7⟩ | ⟨f, g, h1, h2, rfl, rfl, rfl, h6, h7, h8, h9, h10⟩
          · refine And.intro (fun _ => ?_) (fun h_9 => absurd ((by decide)) h_9)
            refine And.intro (fun h_9 => absurd (rfl) h_9) (fun _ => ?_)
            refine ab_ev_of (ih (nI k) (-nI 1) (nI 1) (Or.inr (Or.inl ⟨k, by omega, rfl, rfl, rfl, hb9, hb8, fun j hj hne => d j (by omega)⟩))) (by rw [nI_s k]; rfl) rfl rfl
          · refine And.intro (fun _ => ?_) (fun h_9 => absurd ((by decide)) h_9)
            refine And.intro (fun _ => ?_) (fun h_9 => absurd h_9 (nI_nn (by omega)))
            refine ab_ev_of (ih (nI f) (nI k) (nI 2) (Or.inr (Or.inr ⟨f, k, h1, by omega, rfl, rfl, rfl, h5, hb9, h6, hb8, fun j hj n1 n2 => h7 j (by omega) n1⟩))) (by rw [nI_s k]; rfl) rfl rfl
          · refine And.intro (fun h_9 => absurd h_9 ((by decide))) (fun _ => ?_)
            exact nn (fun ⟨a, b, z⟩ => by
              have e1 := two_in a b f z (by omega) h6
              have e2 := two_in a b g z (by omega) h7
              have e3 := two_in a b k z hk hb9
              omega)
  exact ab_ev_of (scan 0 (by omega) (-nI 1) (-nI 1) (nI 0) (Or.inl ⟨rfl, rfl, rfl, fun j hj => by omega⟩)) rfl rfl rfl
end MMADE3
