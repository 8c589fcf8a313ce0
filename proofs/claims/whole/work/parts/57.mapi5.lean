section MAPI5
variable {X : ab_X} {l : Launch}
theorem MB.setk {w : ab_W} {s : Nat → Int32} {wd tn wd2 tn2 : Int64} {N : Nat → Nat} {R : Nat → Nat → Nat → Int64} (h : MB w s wd tn N R) {s' : Nat → Int32} {G : Nat → Prop} (hg : Fr G s s') (h38 : ¬ G 38) (h39 : ¬ G 39) : MB (va_up w 90 (oMod s' wd2 tn2)) s' wd2 tn2 N R := by
  obtain ⟨h0, h1, h2, ⟨f, h3⟩, ⟨g, h4⟩, k, h5⟩ := h
  have hf : Fr (fun k => k = 90) w (va_up w 90 (oMod s' wd2 tn2)) := Fr.refl.up rfl
  exact ⟨va_us, h1.fr hf hg (by omega) (by omega) (by omega) h38 h39, h2.fr hf (by omega) (by omega), ⟨f, hf.get h3 (by omega)⟩, ⟨g, hf.get h4 (by omega)⟩, k, hf.get h5 (by omega)⟩
abbrev GT (k : Nat) : Prop := GA k ∨ k = 2
def mQT (w : ab_W) (n : Nat) (s : Nat → Int32) (wd tn : Int64) (N : Nat → Nat) (R : Nat → Nat → Nat → Int64) : ab_W → Nat → Prop := fun w' n' => n = n' ∧ Fr FM w w' ∧ ∃ s', Fr GT s s' ∧ s' 0 = nI 0 ∧ s' 2 = nI 0 ∧ MB w' s' wd tn N R
theorem k_Mod_tell_n (x : Int32) (L : Nat) (w : ab_W) (n : Nat) {s : Nat → Int32} {wd tn : Int64} {N : Nat → Nat} {R : Nat → Nat → Nat → Int64} (hL : L ≤ 640) (h : MB w s wd tn N R) (hs : s 2 = nI L) (hb : (x < 0 ∨ nI 8 ≤ x) ∨ L % 2 ≠ 0 ∨ L / 2 < 3 ∨ 60 < L / 2) :
    ab_C X l i_Mod_tell [.ref 90, .int x] w n 0 0 (qI (-nI 1) (mQT w n s wd tn N R)) := by
  have hg : Fr (fun k => k = 0 ∨ k = 2) s (upd (upd s 0 (nI 0)) 2 (nI 0)) := (Fr.refl.us (by omega)).us (by omega)
  have hB := h.setk (wd2 := wd) (tn2 := tn) hg (by omega) (by omega)
  obtain ⟨h0, -⟩ := h
  obtain ⟨w9, rfl⟩ := va_ex h0
  rw [va_uu] at hB
  have fin : mQT (va_up w9 90 (oMod s wd tn)) n s wd tn N R (va_up w9 90 (oMod (upd (upd s 0 (nI 0)) 2 (nI 0)) wd tn)) n := by
    refine ⟨rfl, ?_, _, hg.mono (fun k hk => by omega), rfl, rfl, hB⟩
    have : Fr FM (va_up w9 90 (oMod s wd tn)) (va_up (va_up w9 90 (oMod s wd tn)) 90 (oMod (upd (upd s 0 (nI 0)) 2 (nI 0)) wd tn)) := Fr.refl.up (by omega)
    rwa [va_uu] at this
  refine ab_mqI cd_207 om_207 rfl (ab_sound ok_207 [46] 80 ?_)
  (refine Exists.intro 0 ?_; refine ⟨0, _, Nat.zero_le _, Nat.zero_le _, c_Mod_take _ _ (s := upd s 0 (nI 0)) rfl, ?_⟩; refine ab_q1_elim ?_)
  rw [va_uu, va_uu, show upd s 0 (nI 0) 2 = nI L from hs]
  rcases in_or 8 (by omega) x with ⟨t, ht, hx⟩ | hx
  · (refine Exists.intro 0 ?_; refine ⟨0, _, Nat.zero_le _, Nat.zero_le _, c_Mod_isSheet_y _ t _ _ hx ht, ?_⟩; refine ab_q1_elim ?_)
    refine And.intro (fun h_9 => absurd h_9 ((by decide))) (fun _ => ?_)
    refine And.intro ((by decide)) ?_
    rw [pk_rem (by omega) (by omega) (by omega)]
    rcases hb with hb | hb
    · exact absurd hx (n_out (by omega) ht hb)
    · by_cases e1 : L % 2 = 0
      · refine And.intro (fun h_9 => absurd ((by rw [e1]; rfl)) h_9) (fun _ => ?_)
        refine And.intro ((by decide)) ?_
        rw [pk_div (by omega) (by omega) (by omega)]
        (refine Exists.intro 0 ?_; refine ⟨0, _, Nat.zero_le _, Nat.zero_le _, c_Mod_isIn _ _ _ _ _, ?_⟩; refine ab_q1_elim ?_)
        rw [isIn_n (by rintro ⟨q1, q2⟩; rw [nI_leI (by omega) (by omega)] at q1 q2; omega)]
        refine And.intro (fun h_9 => absurd (rfl) h_9) (fun _ => ?_)
        exact ⟨rfl, fin⟩
      · refine And.intro (fun _ => ?_) (fun h_9 => absurd h_9 (nI_ne0 (by omega) (by omega)))
        exact ⟨rfl, fin⟩
  · (refine Exists.intro 0 ?_; refine ⟨0, _, Nat.zero_le _, Nat.zero_le _, c_Mod_isSheet_n _ _ _ hx, ?_⟩; refine ab_q1_elim ?_)
    refine And.intro (fun _ => ?_) (fun h_9 => absurd (rfl) h_9)
    exact ⟨rfl, fin⟩
theorem k_Mod_tell (x : Int32) (t M : Nat) (w : ab_W) (n : Nat) {s : Nat → Int32} {wd tn : Int64} {N : Nat → Nat} {R : Nat → Nat → Nat → Int64} {tb : Nat → Int32} (hx : x = nI t) (ht : t < 8) (hM : 3 ≤ M ∧ M ≤ 60) (h : MB w s wd tn N R) (hs : s 2 = nI (2 * M)) (h91 : w 91 = aI 640 tb) :
    ab_C X l i_Mod_tell [.ref 90, .int x] w n 0 0 (qI (nI M) (mQT w n s wd tn (va_up N t M) (va_up R t (tellV tb)))) := by
  subst hx
  have hg : Fr (fun k => k = 0 ∨ k = 2) s (upd (upd s 0 (nI 0)) 2 (nI 0)) := (Fr.refl.us (by omega)).us (by omega)
  have hB := h.setk (wd2 := wd) (tn2 := tn) hg (by omega) (by omega)
  obtain ⟨h0, -⟩ := h
  obtain ⟨w9, rfl⟩ := va_ex2 h0 h91
  rw [va_uu] at hB
  have f0 : Fr FM (va_up (va_up w9 91 (aI 640 tb)) 90 (oMod s wd tn)) (va_up (va_up w9 91 (aI 640 tb)) 90 (oMod (upd (upd s 0 (nI 0)) 2 (nI 0)) wd tn)) := by
    have : Fr FM (va_up (va_up w9 91 (aI 640 tb)) 90 (oMod s wd tn)) (va_up (va_up (va_up w9 91 (aI 640 tb)) 90 (oMod s wd tn)) 90 (oMod (upd (upd s 0 (nI 0)) 2 (nI 0)) wd tn)) := Fr.refl.up (by omega)
    rwa [va_uu] at this
  refine ab_mqI cd_207 om_207 rfl (ab_sound ok_207 [46] 80 ?_)
  (refine Exists.intro 0 ?_; refine ⟨0, _, Nat.zero_le _, Nat.zero_le _, c_Mod_take _ _ (s := upd s 0 (nI 0)) rfl, ?_⟩; refine ab_q1_elim ?_)
  rw [va_uu, va_uu, show upd s 0 (nI 0) 2 = nI (2 * M) from hs]
  (refine Exists.intro 0 ?_; refine ⟨0, _, Nat.zero_le _, Nat.zero_le _, c_Mod_isSheet_y _ t _ _ rfl ht, ?_⟩; refine ab_q1_elim ?_)
  refine And.intro (fun h_9 => absurd h_9 ((by decide))) (fun _ => ?_)
  refine And.intro ((by decide)) ?_
  rw [pk_rem (by omega) (by omega) (by omega), show 2 * M % 2 = 0 by omega]
  refine And.intro (fun h_9 => absurd (rfl) h_9) (fun _ => ?_)
  refine And.intro ((by decide)) ?_
  rw [pk_div (by omega) (by omega) (by omega), show 2 * M / 2 = M by omega]
  (refine Exists.intro 0 ?_; refine ⟨0, _, Nat.zero_le _, Nat.zero_le _, c_Mod_isIn _ _ _ _ _, ?_⟩; refine ab_q1_elim ?_)
  rw [isIn_y ⟨nI_le hM.1 (by omega), nI_le hM.2 (by omega)⟩]
  refine And.intro (fun _ => ?_) (fun h_9 => absurd h_9 ((by decide)))
  refine And.intro ((by decide)) ?_
  rw [pk_div (by omega) (by omega) (by omega), show 2 * M / 2 = M by omega]
  (refine Exists.intro 0 ?_; refine ⟨0, _, Nat.zero_le _, Nat.zero_le _, k_layN _ M _ _ rfl hM rfl hB.2.1, ?_⟩; rintro _ w1 _ ⟨rfl, rfl, e1, s1, e2, e3, e4⟩)
  have hB1 := hB.laid e1 e2 e4
  obtain ⟨-, ⟨c1, c2⟩, pf, pg, ph, c3, c4, c5, c6⟩ := id e4
  have hp := phi_le M hM.2
  have hp1 := phi_ge M hM.2 hM.1
  have hp2 := phi_lt M hM.2 hM.1
  have f1 : Fr FM (va_up (va_up w9 91 (aI 640 tb)) 90 (oMod s wd tn)) w1 := f0.trans (e1.mono (fun k hk => by omega))
  have g1 : Fr GT s s1 := (hg.mono (fun k hk => by omega)).trans (e3.mono (fun k hk => by omega))
  have g10 : s1 0 = nI 0 := e3.get rfl (by omega)
  have g12 : s1 2 = nI 0 := e3.get rfl (by omega)
  have h91 : w1 91 = aI 640 tb := e1.get rfl (by omega)
  obtain ⟨f4, h114⟩ := hB1.2.2.2.1
  obtain ⟨f7, h117⟩ := hB1.2.2.2.2.1
  obtain ⟨f8, h118⟩ := hB1.2.2.2.2.2
  have loop : ∀ k, k ≤ M → ∀ w3, Fr FW w1 w3 → ∀ f, w3 114 = aJ 60 f → ∀ g, w3 117 = aJ 3600 g → (∀ j i, j < k → i < phi M → g (60 * j + i) = tellV tb j i) → ab_Ev X l i_Mod_tell 46 [some (.ref 90), some (.int (nI t)), some (.int (nI (2 * M))), some (.int (nI k))] [] w3 n 0 0 (qI (nI M) (mQT (va_up (va_up w9 91 (aI 640 tb)) 90 (oMod s wd tn)) n s wd tn (va_up N t M) (va_up R t (tellV tb)))) := by
    refine ab_up M ?_ (fun k hk ih => ?_)
    · intro w3 hf f hf4 g hg hr
      have hB3 : MB w3 s1 wd tn N R := hB1.wr hf (fun k hk => by omega) ⟨f, hf4⟩ ⟨g, hg⟩ ⟨f8, hf.get h118 (by omega)⟩
      have hf3 := f1.trans (hf.mono (fun k hk => by omega))
      have hc2 := hB3.2.2.1
      obtain ⟨w3, rfl⟩ := va_ex hB3.1
      refine ab_sound ok_207 [46] 80 ?_
      refine And.intro (fun _ => ?_) (fun h_9 => absurd ((by rw [c1]; exact nI_le (Nat.le_refl _) (by omega))) h_9)
      (refine Exists.intro 0 ?_; refine ⟨0, _, Nat.zero_le _, Nat.zero_le _, k_lay _ t M _ _ rfl ht hM rfl c1 hc2 hg hr, ?_⟩; rintro _ w4 _ ⟨rfl, rfl, b1, b2⟩)
      have hB4 := hB3.lay b1 b2
      obtain ⟨w4, rfl⟩ := va_ex hB4.1
      exact ⟨congrArg (fun q => some (Value.int q)) c1, rfl, hf3.trans (b1.mono (fun k hk => by omega)), s1, g1, g10, g12, hB4⟩
    · intro w3 hf f hf4 g hg hr
      have k90 : w3 90 = oMod s1 wd tn := hf.get hB1.1 (by omega)
      have k91 : w3 91 = aI 640 tb := hf.get h91 (by omega)
      have k113 : w3 113 = aI 3600 ph := hf.get c5 (by omega)
      obtain ⟨w3, rfl⟩ := va_ex2 k90 k91
      refine ab_sound ok_207 [46] 80 ?_
      refine And.intro (fun h_9 => absurd h_9 ((by rw [c1]; exact nI_ge hk (by omega)))) (fun _ => ?_)
      (refine Exists.intro 0 ?_; refine ⟨0, _, Nat.zero_le _, Nat.zero_le _, c_Mod_clear _ _ rfl hf4, ?_⟩; refine ab_q1_elim ?_)
      refine And.intro ((by rw [pk_mul]; exact vp_in_nI (by omega) (by omega))) ?_
      (refine Exists.intro 0 ?_; refine ⟨0, _, Nat.zero_le _, Nat.zero_le _, c_Mod_signed _ _ _, ?_⟩; refine ab_q1_elim ?_)
      refine And.intro (vp_in_nI (by omega) (by omega)) ?_
      refine And.intro ((by rw [pk_mul, nI_add]; exact vp_in_nI (by omega) (by omega))) ?_
      (refine Exists.intro 0 ?_; refine ⟨0, _, Nat.zero_le _, Nat.zero_le _, c_Mod_signed _ _ _, ?_⟩; refine ab_q1_elim ?_)
      refine And.intro (vp_in_nI (by omega) (by omega)) ?_
      rw [va_uu, va_uu, pk_mul, nI_add, nI_clamp (by omega), nI_clamp (by omega), nI_clamp (by omega), nI_clamp (by omega)]
      (refine Exists.intro 0 ?_; refine ⟨0, _, Nat.zero_le _, Nat.zero_le _, c_Mod_write_117 _ M (60 * k) 3600 _ _ (pk_mul 60 k) hM.2 hM.1 (by omega) (by omega) c1 c2 rfl k113 c6 va_us hg, ?_⟩; refine ab_q1_elim ?_)
      refine ab_ev_of (ih _ ((hf.up (by omega)).up (by omega)) _ ((va_un (by omega)).trans va_us) _ va_us (wr_rows hM hr ?_)) (by rw [nI_s k]; rfl) rfl rfl
      intro i hi
      have hz : ∀ j, j < 60 → zb 60 f j = 0 := fun j hj => by unfold zb; rw [if_pos hj]
      rw [red_lo M hM.2 hM.1 (fun j hj1 hj2 => by rw [pk_uLn (by omega), pk_uLn (by omega), hz j (by omega)]) i hi]
      unfold tellV
      by_cases e0 : i = 0
      · subst e0
        rw [pk_uLn (by omega), pk_uLs, if_pos rfl]
      · rw [if_neg e0]
        by_cases e1 : i = 1
        · subst e1
          rw [pk_uLs, if_pos rfl]
        · rw [if_neg e1, pk_uLn e1, pk_uLn e0, hz i (by omega)]
  exact ab_ev_of (loop 0 (by omega) w1 Fr.refl f4 h114 f7 h117 (fun j i hj => by omega)) rfl rfl rfl
theorem k_Mod_area_n (x y : Int32) (w : ab_W) (n : Nat) {s : Nat → Int32} {wd tn : Int64} {N : Nat → Nat} {R : Nat → Nat → Nat → Int64} (hx : badS N x ∨ ∃ t, t < 8 ∧ x = nI t ∧ N t ≠ 0 ∧ (y < 0 ∨ nI (phi (N t)) ≤ y)) (h : MB w s wd tn N R) :
    ab_C X l i_Mod_area [.ref 90, .int x, .int y] w n 0 0 (qL 0 (mQ w n s wd tn (nI 1) N R)) := by
  have hh := h
  obtain ⟨h0, hN0, hS, -⟩ := h
  obtain ⟨w9, rfl⟩ := va_ex h0
  refine ab_mqL cd_224 om_224 rfl rfl (ab_sound ok_224 [20] 80 ?_)
  have fin : ∀ w1 s', Fr FM (va_up w9 90 (oMod s wd tn)) w1 → Fr GA s s' → MB w1 s' wd tn N R → ab_Ev X l i_Mod_area 20 (ab_en (ab_mx i_Mod_area) [.ref 90, .int x, .int y]) [] w1 n 0 0 (qL 0 (mQ (va_up w9 90 (oMod s wd tn)) n s wd tn (nI 1) N R)) := by
    intro w1 s' f1 f2 hB
    have hB2 := hB.set0 (nI 1)
    obtain ⟨w1, rfl⟩ := va_ex hB.1
    refine ab_sound ok_224 [] 80 ?_
    (refine Exists.intro 0 ?_; refine ⟨0, _, Nat.zero_le _, Nat.zero_le _, c_Mod_refuse _ _ rfl, ?_⟩; refine ab_q1_elim ?_)
    exact ⟨rfl, rfl, f1.up (by omega), upd s' 0 (nI 1), f2.us (by omega), rfl, hB2⟩
  rcases hx with hx | ⟨t, ht, hx, hN, hc⟩
  · (refine Exists.intro 0 ?_; refine ⟨0, _, Nat.zero_le _, Nat.zero_le _, k_has_n _ _ _ hx h0 hS, ?_⟩; refine ab_q1_elim ?_)
    refine And.intro (fun _ => ?_) (fun h_9 => absurd (rfl) h_9)
    exact fin _ s Fr.refl Fr.refl hh
  · (refine Exists.intro 0 ?_; refine ⟨0, _, Nat.zero_le _, Nat.zero_le _, k_has_y _ t _ _ hx ht hN h0 hN0 hS, ?_⟩; rintro _ w1 _ ⟨rfl, rfl, e1, s', e2, e3, e4⟩)
    have hB := hh.laid e1 e2 e4
    obtain ⟨hM, ⟨c1, c2⟩, -⟩ := e4
    obtain ⟨w1, rfl⟩ := va_ex e2
    have fin := fin _ s' (e1.mono (fun k hk => by omega)) (e3.mono (fun k hk => by omega)) hB
    refine And.intro (fun h_9 => absurd h_9 ((by decide))) (fun _ => ?_)
    refine And.intro (fun a1 => ?_) (fun a1 => ?_)
    · exact fin
    have h9 : ¬ y < s' 39 := by
      rw [c2]
      rcases hc with hc | hc
      · exact absurd hc a1
      · intro q
        rw [i32_lt] at q
        rw [i32_le] at hc
        omega
    refine And.intro (fun h_9 => absurd h_9 (h9)) (fun _ => ?_)
    exact fin
theorem k_Mod_area (x y : Int32) (t i : Nat) (w : ab_W) (n : Nat) {s : Nat → Int32} {wd tn : Int64} {N : Nat → Nat} {R : Nat → Nat → Nat → Int64} {g5 : Nat → Int64} (hx : x = nI t) (hy : y = nI i) (ht : t < 8) (hN : N t ≠ 0) (hi : i < phi (N t)) (h : MB w s wd tn N R) (h125 : w 125 = aJ 60 g5) :
    ab_C X l i_Mod_area [.ref 90, .int x, .int y] w n 0 0 (qL (ArV (N t) (R t) i) fun w' n' => n = n' ∧ Fr (fun k => FM k ∨ k = 125) w w' ∧ (∃ g, w' 125 = aJ 60 g) ∧ ∃ s', Fr GA s s' ∧ s' 0 = nI 0 ∧ MB w' s' wd tn N R) := by
  subst hx hy
  have hh := h
  obtain ⟨h0, hN0, hS, -⟩ := h
  obtain ⟨w9, rfl⟩ := va_ex h0
  refine ab_mqL cd_224 om_224 rfl rfl (ab_sound ok_224 [37] 80 ?_)
  (refine Exists.intro 0 ?_; refine ⟨0, _, Nat.zero_le _, Nat.zero_le _, k_has_y _ t _ _ rfl ht hN h0 hN0 hS, ?_⟩; rintro _ w1 _ ⟨rfl, rfl, e1, s', e2, e3, e4⟩)
  have hB := hh.laid e1 e2 e4
  have hB2 := hB.set0 (nI 0)
  have h125b : w1 125 = aJ 60 g5 := e1.get h125 (by omega)
  obtain ⟨hM, ⟨c1, c2⟩, pf, pg, ph, c3, c4, c5, c6⟩ := id e4
  have hp := phi_le _ hM.2
  obtain ⟨G, G1, G2⟩ := hB.2.2.1.rows
  have hR := G2 t ht
  obtain ⟨f4, h114⟩ := hB.2.2.2.1
  have f0 : Fr FM (va_up w9 90 (oMod s wd tn)) (va_up w1 90 (oMod (upd s' 0 (nI 0)) wd tn)) := (e1.mono (fun k hk => by omega)).up (by omega)
  obtain ⟨w1, rfl⟩ := va_ex e2
  generalize hMe : N t = M at *
  refine And.intro (fun h_9 => absurd h_9 ((by decide))) (fun _ => ?_)
  refine And.intro (fun h_9 => absurd h_9 (nI_pos (by omega))) (fun _ => ?_)
  refine And.intro (fun _ => ?_) (fun h_9 => absurd ((by rw [c2]; exact nI_lt hi (by omega))) h_9)
  rw [va_uu] at hB2 f0
  (refine Exists.intro 0 ?_; refine ⟨0, _, Nat.zero_le _, Nat.zero_le _, c_Mod_clear _ _ (s := upd s' 0 (nI 0)) rfl h114, ?_⟩; refine ab_q1_elim ?_)
  rw [va_uu]
  have q116 : ∀ z, (va_up (va_up w1 90 (oMod (upd s' 0 (nI 0)) wd tn)) 114 (aJ 60 z)) 116 = aJ 28800 G := fun z => G1
  have loop : ∀ k, k ≤ M → ab_Ev X l i_Mod_area 37 [some (.ref 90), some (.int (nI t)), some (.int (nI i)), some (.int (nI k))] [] (va_up (va_up w1 90 (oMod (upd s' 0 (nI 0)) wd tn)) 114 (aJ 60 (arF M (R t) k (zb 60 f4)))) n 0 0 (qL (ArV M (R t) i) fun w' n' => n = n' ∧ Fr (fun k => FM k ∨ k = 125) (va_up w9 90 (oMod s wd tn)) w' ∧ (∃ g, w' 125 = aJ 60 g) ∧ ∃ s', Fr GA s s' ∧ s' 0 = nI 0 ∧ MB w' s' wd tn N R) := by
    refine ab_up M ?_ (fun k hk ih => ?_)
    · refine ab_sound ok_224 [37] 80 ?_
      refine And.intro (fun _ => ?_) (fun h_9 => absurd ((by rw [show upd s' 0 (nI 0) 38 = nI M from c1]; exact nI_le (Nat.le_refl _) (by omega))) h_9)
      (refine Exists.intro 0 ?_; refine ⟨0, _, Nat.zero_le _, Nat.zero_le _, c_Mod_write_125 _ M 0 60 _ _ (s := upd s' 0 (nI 0)) rfl hM.2 hM.1 (by omega) (by omega) c1 c2 rfl c5 c6 va_us h125b, ?_⟩; refine ab_q1_elim ?_)
      refine And.intro (vp_in_nI (by omega) (by omega)) ?_
      have f9 : Fr (fun k => FM k ∨ k = 125) (va_up w9 90 (oMod s wd tn)) (va_up (va_up (va_up w1 90 (oMod (upd s' 0 (nI 0)) wd tn)) 114 (aJ 60 (arF M (R t) M (zb 60 f4)))) 125 (aJ 60 (wrF M 0 60 (arF M (R t) M (zb 60 f4)) g5))) := ((f0.mono (fun k hk => by omega)).up (by omega)).up (by omega)
      have f8 : Fr (fun k => k = 114 ∨ k = 125) (va_up w1 90 (oMod (upd s' 0 (nI 0)) wd tn)) (va_up (va_up (va_up w1 90 (oMod (upd s' 0 (nI 0)) wd tn)) 114 (aJ 60 (arF M (R t) M (zb 60 f4)))) 125 (aJ 60 (wrF M 0 60 (arF M (R t) M (zb 60 f4)) g5))) := (Fr.refl.up (by omega)).up (by omega)
      obtain ⟨b0, b1, b2, b3, ⟨b4f, b4⟩, b5f, b5⟩ := hB2
      refine ⟨?_, rfl, f9, ⟨_, va_us⟩, upd s' 0 (nI 0), (e3.mono (fun k hk => by omega)).us (by omega), rfl, f8.get b0 (by omega), b1.fr f8 (Fr.refl (F := fun _ => False)) (by omega) (by omega) (by omega) (by simp) (by simp), b2.fr f8 (by omega) (by omega), ⟨_, (va_un (by omega)).trans va_us⟩, ⟨b4f, f8.get b4 (by omega)⟩, b5f, f8.get b5 (by omega)⟩
      rw [nI_clamp (by omega)]
      unfold wrF ArV
      rw [if_pos (by omega), if_pos (by omega), Nat.sub_zero, e60_red hM.2 (e60_ar hM (R t) (e60_zb f4) M) i]
    · refine ab_sound ok_224 [37] 80 ?_
      refine And.intro (fun h_9 => absurd h_9 ((by rw [show upd s' 0 (nI 0) 38 = nI M from c1]; exact nI_ge hk (by omega)))) (fun _ => ?_)
      have hlt : (k + 1) % M < M := Nat.mod_lt _ (by omega)
      have hmd : md ((nI k + nI 1).toInt64).toInt M = (k + 1) % M := by rw [nI_add, nI_l (by omega), lN_toInt (by omega), md_nat]
      (refine Exists.intro 0 ?_; refine ⟨0, _, Nat.zero_le _, Nat.zero_le _, c_Mod_at _ _ t k _ _ rfl rfl, ?_⟩; refine ab_q1_elim ?_)
      (refine Exists.intro 0 ?_; refine ⟨0, _, Nat.zero_le _, Nat.zero_le _, c_Mod_by _ M (by omega) (by omega) _ _ (s := upd s' 0 (nI 0)) rfl c1, ?_⟩; refine ab_q1_elim ?_)
      rw [hmd]
      (refine Exists.intro 0 ?_; refine ⟨0, _, Nat.zero_le _, Nat.zero_le _, c_Mod_at _ _ t ((k + 1) % M) _ _ rfl rfl, ?_⟩; refine ab_q1_elim ?_)
      (refine Exists.intro 0 ?_; refine ⟨0, _, Nat.zero_le _, Nat.zero_le _, c_Mod_gatherProduct _ _ _ _ M (3600 * t + 60 * k) (3600 * t + 60 * ((k + 1) % M)) _ _ (s := upd s' 0 (nI 0)) true rfl rfl rfl hM.2 hM.1 (by omega) (by omega) c1 c2 rfl va_us (q116 _), ?_⟩; refine ab_q1_elim ?_)
      rw [va_uu]
      (refine Exists.intro 0 ?_; refine ⟨0, _, Nat.zero_le _, Nat.zero_le _, c_Mod_by _ M (by omega) (by omega) _ _ (s := upd s' 0 (nI 0)) rfl c1, ?_⟩; refine ab_q1_elim ?_)
      rw [hmd]
      (refine Exists.intro 0 ?_; refine ⟨0, _, Nat.zero_le _, Nat.zero_le _, c_Mod_at _ _ t ((k + 1) % M) _ _ rfl rfl, ?_⟩; refine ab_q1_elim ?_)
      (refine Exists.intro 0 ?_; refine ⟨0, _, Nat.zero_le _, Nat.zero_le _, c_Mod_at _ _ t k _ _ rfl rfl, ?_⟩; refine ab_q1_elim ?_)
      (refine Exists.intro 0 ?_; refine ⟨0, _, Nat.zero_le _, Nat.zero_le _, c_Mod_gatherProduct _ _ _ _ M (3600 * t + 60 * ((k + 1) % M)) (3600 * t + 60 * k) _ _ (s := upd s' 0 (nI 0)) true rfl rfl rfl hM.2 hM.1 (by omega) (by omega) c1 c2 rfl va_us (q116 _), ?_⟩; refine ab_q1_elim ?_)
      rw [va_uu]
      refine ab_ev_of ih (by rw [nI_s k]; rfl) rfl ?_
      refine congrArg (fun z => va_up _ 114 (aJ 60 z)) ?_
      have hR : ∀ k i, k < M → i < phi M → G (3600 * t + 60 * k + i) = R t k i := hR
      refine (gpF_congr (ix2 := fun i j => (j + M - i) % M) (v2 := fun i j => -lN 1 * R t ((k + 1) % M) i * R t k j) (phi M) _ (phi M) (fun i j hi hj => ⟨rfl, ?_⟩)).trans ?_
      · show -lN 1 * G (3600 * t + 60 * ((k + 1) % M) + i) * G (3600 * t + 60 * k + j) = _
        rw [hR _ i hlt hi, hR _ j hk hj]
      · refine congrArg (gpF (fun i j => (j + M - i) % M) (fun i j => -lN 1 * R t ((k + 1) % M) i * R t k j) (phi M) (phi M)) ?_
        refine gpF_congr (phi M) _ (phi M) (fun i j hi hj => ⟨rfl, ?_⟩)
        show lN 1 * G (3600 * t + 60 * k + i) * G (3600 * t + 60 * ((k + 1) % M) + j) = _
        rw [hR _ i hk hi, hR _ j hlt hj]
  exact ab_ev_of (loop 0 (by omega)) rfl rfl rfl
theorem k_Mod_same_n (x y : Int32) (w : ab_W) (n : Nat) {s : Nat → Int32} {wd tn : Int64} {N : Nat → Nat} {R : Nat → Nat → Nat → Int64} (hx : badS N x ∨ (y < 0 ∨ nI 3 ≤ y)) (h : MB w s wd tn N R) : ab_C X l i_Mod_same [.ref 90, .int x, .int y] w n 0 0 (qI (-nI 1) (mQ w n s wd tn (nI 0) N R)) := by
  have hB0 := h.set0 (nI 0)
  obtain ⟨h0, -⟩ := h
  obtain ⟨w9, rfl⟩ := va_ex h0
  refine ab_mqI cd_219 om_219 rfl (ab_sound ok_219 [31, 100] 80 ?_)
  rcases sh_or N x with ⟨t, ht, hx2, hN⟩ | hx2
  · (refine Exists.intro 0 ?_; refine ⟨0, _, Nat.zero_le _, Nat.zero_le _, k_has_y _ t _ _ hx2 ht hN hB0.1 hB0.2.1 hB0.2.2.1, ?_⟩; rintro _ w1 _ ⟨rfl, rfl, e1, s1, e2, e3, e4⟩)
    have hB1 := hB0.laid e1 e2 e4
    obtain ⟨w1, rfl⟩ := va_ex e2
    refine And.intro (fun h_9 => absurd h_9 ((by decide))) (fun _ => ?_)
    have hy : y < 0 ∨ nI 3 ≤ y := by
      rcases hx with (hx | ⟨t', b1, b2, b3⟩) | hx
      · exact absurd hx2 (n_out (by omega) ht hx)
      · have := (nI_eq (by omega) (by omega)).mp (hx2.symm.trans b2)
        subst this
        exact absurd b3 hN
      · exact hx
    (refine Exists.intro 0 ?_; refine ⟨0, _, Nat.zero_le _, Nat.zero_le _, c_Mod_isIn _ _ _ _ _, ?_⟩; refine ab_q1_elim ?_)
    rw [isIn_n (by
      rintro ⟨q1, q2⟩
      rcases hy with hy | hy
      · rw [i32_lt] at hy
        rw [i32_le] at q1
        have z0 : (0 : Int32).toInt = 0 := rfl
        have z1 : (nI 0).toInt = 0 := rfl
        omega
      · rw [i32_le] at hy q2
        have z0 : (nI 2).toInt = 2 := rfl
        have z1 : (nI 3).toInt = 3 := rfl
        omega)]
    refine And.intro (fun h_9 => absurd (rfl) h_9) (fun _ => ?_)
    exact ⟨rfl, rfl, (Fr.refl.up (by omega)).trans (e1.mono (fun k hk => by omega)), s1, (Fr.refl.us (by omega)).trans (e3.mono (fun k hk => by omega)), e3.get rfl (by omega), hB1⟩
  · (refine Exists.intro 0 ?_; refine ⟨0, _, Nat.zero_le _, Nat.zero_le _, k_has_n _ _ _ hx2 hB0.1 hB0.2.2.1, ?_⟩; refine ab_q1_elim ?_)
    refine And.intro (fun _ => ?_) (fun h_9 => absurd (rfl) h_9)
    exact ⟨rfl, rfl, Fr.refl.up (by omega), upd s 0 (nI 0), Fr.refl.us (by omega), rfl, hB0⟩
theorem k_Mod_same2 (x : Int32) (t : Nat) (w : ab_W) (n : Nat) {s : Nat → Int32} {wd tn : Int64} {N : Nat → Nat} {R : Nat → Nat → Nat → Int64} (hx : x = nI t) (ht : t < 8) (hN : N t ≠ 0) (h : MB w s wd tn N R) : ab_C X l i_Mod_same [.ref 90, .int x, .int (nI 2)] w n 0 0 (qI (nI (cnt (fresh (phi (N t)) (DV (N t) (R t))) (N t))) (mQ w n s wd tn (nI 0) N R)) := by
  subst hx
  have hB0 := h.set0 (nI 0)
  obtain ⟨h0, -⟩ := h
  obtain ⟨w9, rfl⟩ := va_ex h0
  refine ab_mqI cd_219 om_219 rfl (ab_sound ok_219 [31] 80 ?_)
  (refine Exists.intro 0 ?_; refine ⟨0, _, Nat.zero_le _, Nat.zero_le _, k_has_y _ t _ _ rfl ht hN hB0.1 hB0.2.1 hB0.2.2.1, ?_⟩; rintro _ w1 _ ⟨rfl, rfl, e1, s1, e2, e3, e4⟩)
  have hB1 := hB0.laid e1 e2 e4
  have f1 : Fr FM (va_up w9 90 (oMod s wd tn)) w1 := (Fr.refl.up (by omega)).trans (e1.mono (fun k hk => by omega))
  have g1 : Fr GA s s1 := (Fr.refl.us (by omega)).trans (e3.mono (fun k hk => by omega))
  have g10 : s1 0 = nI 0 := e3.get rfl (by omega)
  obtain ⟨hM, ⟨c1, c2⟩, pf, pg, ph, c3, c4, c5, c6⟩ := id e4
  have hp := phi_le _ hM.2
  obtain ⟨G, G1, G2⟩ := hB1.2.2.1.rows
  have hR := G2 t ht
  obtain ⟨f4, h114⟩ := hB1.2.2.2.1
  obtain ⟨f7, h117⟩ := hB1.2.2.2.2.1
  obtain ⟨f8, h118⟩ := hB1.2.2.2.2.2
  generalize hMe : N t = M at *
  have loop : ∀ k, k ≤ M → ∀ w3, Fr (fun k => k = 114 ∨ k = 118) w1 w3 → ∀ f, w3 114 = aJ 60 f → ∀ g, w3 118 = aJ 3600 g → (∀ j i, j < k → i < phi M → g (60 * j + i) = DV M (R t) j i) → ab_Ev X l i_Mod_same 31 [some (.ref 90), some (.int (nI t)), some (.int (nI 2)), some (.int (nI k)), none] [] w3 n 0 0 (qI (nI (cnt (fresh (phi M) (DV M (R t))) M)) (mQ (va_up w9 90 (oMod s wd tn)) n s wd tn (nI 0) N R)) := by
    refine ab_up M ?_ (fun k hk ih => ?_)
    · intro w3 hf f hf4 g hg hr
      have hB3 : MB w3 s1 wd tn N R := hB1.wr hf (fun k hk => by omega) ⟨f, hf4⟩ ⟨f7, hf.get h117 (by omega)⟩ ⟨g, hg⟩
      have hf3 := f1.trans (hf.mono (fun k hk => by omega))
      obtain ⟨w3, rfl⟩ := va_ex2 hB3.1 hg
      refine ab_sound ok_219 [31] 80 ?_
      refine And.intro (fun _ => ?_) (fun h_9 => absurd ((by rw [c1]; exact nI_le (Nat.le_refl _) (by omega))) h_9)
      (refine Exists.intro 0 ?_; refine ⟨0, _, Nat.zero_le _, Nat.zero_le _, c_Mod_unlike_118 _ M (phi M) 0 3600 _ _ rfl hM.2 hp (by omega) (by omega) c1 c2 rfl rfl, ?_⟩; refine ab_q1_elim ?_)
      have e9 : SmR M (rowsOf g 0) (DV M (R t)) := fun j i hj hi => by unfold rowsOf; rw [Nat.zero_add]; exact hr j i hj hi
      rw [cnt_congr M (fun k hk => fresh_congr e9 hk)]
      exact ⟨rfl, rfl, hf3, s1, g1, g10, hB3⟩
    · intro w3 hf f hf4 g hg hr
      have k90 : w3 90 = oMod s1 wd tn := hf.get hB1.1 (by omega)
      have k116 : w3 116 = aJ 28800 G := hf.get G1 (by omega)
      have k113 : w3 113 = aI 3600 ph := hf.get c5 (by omega)
      obtain ⟨w3, rfl⟩ := va_ex k90
      refine ab_sound ok_219 [31] 80 ?_
      refine And.intro (fun h_9 => absurd h_9 ((by rw [c1]; exact nI_ge hk (by omega)))) (fun _ => ?_)
      (refine Exists.intro 0 ?_; refine ⟨0, _, Nat.zero_le _, Nat.zero_le _, c_Mod_clear _ _ rfl hf4, ?_⟩; refine ab_q1_elim ?_)
      (refine Exists.intro 0 ?_; refine ⟨0, _, Nat.zero_le _, Nat.zero_le _, c_Mod_at _ _ t k _ _ rfl rfl, ?_⟩; refine ab_q1_elim ?_)
      (refine Exists.intro 0 ?_; refine ⟨0, _, Nat.zero_le _, Nat.zero_le _, c_Mod_at _ _ t k _ _ rfl rfl, ?_⟩; refine ab_q1_elim ?_)
      (refine Exists.intro 0 ?_; refine ⟨0, _, Nat.zero_le _, Nat.zero_le _, c_Mod_gatherProduct _ _ _ _ M (3600 * t + 60 * k) (3600 * t + 60 * k) _ _ true rfl rfl rfl hM.2 hM.1 (by omega) (by omega) c1 c2 rfl va_us k116, ?_⟩; refine ab_q1_elim ?_)
      (refine Exists.intro 0 ?_; refine ⟨0, _, Nat.zero_le _, Nat.zero_le _, c_Mod_write_118 _ M (60 * k) 3600 _ _ (pk_mul 60 k) hM.2 hM.1 (by omega) (by omega) c1 c2 rfl k113 c6 va_us hg, ?_⟩; refine ab_q1_elim ?_)
      refine ab_ev_of (ih _ (((hf.up (by omega)).up (by omega)).up (by omega)) _ ((va_un (by omega)).trans va_us) _ va_us (wr_rows hM hr ?_)) (by rw [nI_s k]; rfl) rfl rfl
      intro i hi
      have hR : ∀ k i, k < M → i < phi M → G (3600 * t + 60 * k + i) = R t k i := hR
      refine e60_red hM.2 (e60_gp (e60_zb f) (phi M) (phi M) (fun i j hi hj => ⟨Nat.lt_of_lt_of_le (Nat.mod_lt _ (by omega)) hM.2, rfl, ?_⟩)) i
      show lN 1 * G (3600 * t + 60 * k + i) * G (3600 * t + 60 * k + j) = _
      rw [hR k i hk hi, hR k j hk hj]
  obtain ⟨w1, rfl⟩ := va_ex e2
  refine And.intro (fun h_9 => absurd h_9 ((by decide))) (fun _ => ?_)
  (refine Exists.intro 0 ?_; refine ⟨0, _, Nat.zero_le _, Nat.zero_le _, c_Mod_isIn _ _ _ _ _, ?_⟩; refine ab_q1_elim ?_)
  rw [isIn_y ⟨nI_le (by omega) (by omega), nI_le (by omega) (by omega)⟩]
  refine And.intro (fun _ => ?_) (fun h_9 => absurd h_9 ((by decide)))
  refine And.intro (fun h_9 => absurd (rfl) h_9) (fun _ => ?_)
  exact ab_ev_of (loop 0 (by omega) _ Fr.refl f4 h114 f8 h118 (fun j i hj => by omega)) rfl rfl rfl
end MAPI5
