/-! made() of the class -/
def bxOk (y : Int32) (L : Nat) (tb : Nat → Int32) : Prop := ∃ R W, y = nI R ∧ (1 ≤ R ∧ R ≤ 12) ∧ (1 ≤ W ∧ W ≤ 12) ∧ L = R + W ∧ ∀ i, i < L → nI 3 ≤ tb i ∧ tb i ≤ nI 200
def KX (w : ab_W) (wy : Int32) (a1 a2 a3 a4 : Nat → Int32) : Prop := (∃ rg wl, w 33 = oBox rg wl wy) ∧ (∃ f, w 34 = aI 12 f) ∧ (∃ f, w 35 = aI 12 f) ∧ w 36 = aI 40 a1 ∧ w 37 = aI 40 a2 ∧ w 38 = aI 40 a3 ∧ w 39 = aI 40 a4
theorem KX.fr {F : Nat → Prop} {w w' : ab_W} {wy : Int32} {a1 a2 a3 a4 : Nat → Int32} (h : KX w wy a1 a2 a3 a4) (hf : Fr F w w') (hF : ∀ k, F k → ¬ (33 ≤ k ∧ k ≤ 39)) : KX w' wy a1 a2 a3 a4 := by
  obtain ⟨⟨rg, wl, h0⟩, ⟨f, h1⟩, ⟨g, h2⟩, h3, h4, h5, h6⟩ := h
  have q : ∀ k, (33 ≤ k ∧ k ≤ 39) → ¬ F k := fun k a b => hF k b a
  exact ⟨⟨rg, wl, hf.get h0 (q _ (by omega))⟩, ⟨f, hf.get h1 (q _ (by omega))⟩, ⟨g, hf.get h2 (q _ (by omega))⟩, hf.get h3 (q _ (by omega)), hf.get h4 (q _ (by omega)), hf.get h5 (q _ (by omega)), hf.get h6 (q _ (by omega))⟩
/-- a byte as a number -/
def tN (tb : Nat → Int32) (i : Nat) : Nat := (tb i).toInt.toNat
theorem tN_at {tb : Nat → Int32} {i : Nat} (h : nI 3 ≤ tb i ∧ tb i ≤ nI 200) : tb i = nI (tN tb i) ∧ 3 ≤ tN tb i ∧ tN tb i ≤ 200 := by
  rw [i32_le, i32_le] at h
  have q1 := nI_toInt (show 3 < 2 ^ 31 by omega)
  have q2 := nI_toInt (show 200 < 2 ^ 31 by omega)
  unfold tN
  exact ⟨nI_of_toInt (by omega), by omega, by omega⟩
section MADE
variable {X : ab_X} {l : Launch}
theorem k_take (y : Int32) (R W : Nat) (w : ab_W) (n : Nat) {a b c d e rg wl wy : Int32} {tb ra wa : Nat → Int32} (hy : y = nI R) (hR : 1 ≤ R ∧ R ≤ 12) (hW : 1 ≤ W ∧ W ≤ 12) (hb : ∀ i, i < R + W → nI 3 ≤ tb i ∧ tb i ≤ nI 200) (h1 : w 1 = oTape (nI (R + W)) a b c d e) (h2 : w 2 = aI 640 tb) (h33 : w 33 = oBox rg wl wy) (h34 : w 34 = aI 12 ra) (h35 : w 35 = aI 12 wa) :
    ab_C X l i_Box_take [.ref 33, .ref 1, .int y] w n 0 0 (qI (nI 1) fun w' n' => n = n' ∧ Fr (fun k => 33 ≤ k ∧ k ≤ 35) w w' ∧ w' 33 = oBox (nI R) (nI W) wy ∧ ∃ ra' wa', w' 34 = aI 12 ra' ∧ w' 35 = aI 12 wa' ∧ (∀ i, i < R → ra' i = tb i) ∧ ∀ j, j < W → wa' j = tb (R + j)) := by
  subst hy
  have hs : nI (R + W) - nI R = nI W := by rw [pk_sub (by omega), show R + W - R = W by omega]
  have loop : ∀ i, i ≤ R + W → ∀ w3 ra wa, Fr (fun k => 33 ≤ k ∧ k ≤ 35) w w3 → w3 33 = oBox (nI R) (nI W) wy → w3 34 = aI 12 ra → w3 35 = aI 12 wa → (∀ j, j < i → j < R → ra j = tb j) → (∀ j, R + j < i → wa j = tb (R + j)) → ∀ l4 : Option Value, ab_Ev X l i_Box_take 51 [some (.ref 33), some (.ref 1), some (.int (nI R)), some (.int (nI i)), l4] [] w3 n 0 0 (qI (nI 1) fun w' n' => n = n' ∧ Fr (fun k => 33 ≤ k ∧ k ≤ 35) w w' ∧ w' 33 = oBox (nI R) (nI W) wy ∧ ∃ ra' wa', w' 34 = aI 12 ra' ∧ w' 35 = aI 12 wa' ∧ (∀ i, i < R → ra' i = tb i) ∧ ∀ j, j < W → wa' j = tb (R + j)) := by
    refine ab_up (R + W) ?_ (fun i hi ih => ?_)
    · intro w3 ra wa hf k33 k34 k35 q1 q2 l4
      have k1 := hf.get h1 (by omega)
      obtain ⟨w3, rfl⟩ := va_ex k1
      refine ab_sound ok_1 [51] 80 ?_
      refine And.intro (fun _ => ?_) (fun h_9 => absurd (nI_le (Nat.le_refl _) (by omega)) h_9)
      exact ⟨rfl, rfl, rfl, hf, k33, ra, wa, k34, k35, fun j hj => q1 j (by omega) hj, fun j hj => q2 j (by omega)⟩
    · intro w3 ra wa hf k33 k34 k35 q1 q2 l4
      have k1 := hf.get h1 (by omega)
      have k2 := hf.get h2 (by omega)
      have hbi := hb i hi
      obtain ⟨w3, rfl⟩ := va_ex5 k1 k2 k33 k34 k35
      refine ab_sound ok_1 [51] 80 ?_
      refine And.intro (fun h_9 => absurd h_9 (nI_ge hi (by omega))) (fun _ => ?_)
      (refine Exists.intro 0 ?_; refine ⟨0, _, Nat.zero_le _, Nat.zero_le _, c_Tape_byteAt _ i _ _ rfl (by omega) rfl rfl, ?_⟩; refine ab_q1_elim ?_)
      refine And.intro (fun h_9 => absurd h_9 ((by have := hbi.1; rw [i32_le] at this; rw [i32_lt]; omega))) (fun _ => ?_)
      refine And.intro (fun _ => ?_) (fun h_9 => absurd (hbi.2) h_9)
      by_cases e : i < R
      · refine And.intro (fun h_9 => absurd h_9 (nI_ge e (by omega))) (fun _ => ?_)
        refine And.intro (vp_in_nI (by omega) (by omega)) ?_
        rw [nI_clamp (by omega)]
        refine ab_ev_of (ih _ _ wa (hf.up (by omega)) rfl rfl rfl (fun j hj hjR => ?_) (fun j hj => by omega) (some (.int (tb i)))) (by rw [nI_s i]; rfl) rfl rfl
        by_cases e2 : j = i
        · rw [e2, upd_at]
        · rw [upd_ne e2]; exact q1 j (by omega) hjR
      · refine And.intro (fun _ => ?_) (fun h_9 => absurd (nI_le (by omega) (by omega)) h_9)
        refine And.intro ((by rw [pk_sub (by omega)]; exact vp_in_nI (by omega) (by omega))) ?_
        rw [pk_sub (by omega), nI_clamp (by omega)]
        refine ab_ev_of (ih _ ra _ (hf.up (by omega)) rfl rfl rfl (fun j hj hjR => q1 j (by omega) hjR) (fun j hj => ?_) (some (.int (tb i)))) (by rw [nI_s i]; rfl) rfl rfl
        by_cases e2 : j = i - R
        · rw [e2, upd_at, show R + (i - R) = i by omega]
        · rw [upd_ne e2]; exact q2 j (by omega)
  have fin := loop 0 (by omega) (va_up w 33 (oBox (nI R) (nI W) wy)) ra wa (Fr.refl.up (by omega)) va_us ((va_un (by omega)).trans h34) ((va_un (by omega)).trans h35) (fun j hj => by omega) (fun j hj => by omega) none
  obtain ⟨w, rfl⟩ := va_ex2 h1 h33
  refine ab_mqI cd_1 om_1 rfl (ab_sound ok_1 [51] 80 ?_)
  refine And.intro (fun h_9 => absurd h_9 (nI_nlt (by omega) (by omega))) (fun _ => ?_)
  refine And.intro (fun h_9 => absurd h_9 (nI_nlt (by omega) (by omega))) (fun _ => ?_)
  refine And.intro (fun h_9 => absurd h_9 ((by rw [hs]; exact nI_nlt (by omega) (by omega)))) (fun _ => ?_)
  refine And.intro (fun _ => ?_) (fun h_9 => absurd ((by rw [hs]; exact nI_le (by omega) (by omega))) h_9)
  refine ab_ev_of fin rfl rfl ?_
  rw [va_uu]
  exact congrArg (fun q => va_up _ 33 (oBox (nI R) q wy)) hs
theorem k_take_n (y : Int32) (L : Nat) (w : ab_W) (n : Nat) {a b c d e rg wl wy : Int32} {tb ra wa : Nat → Int32} (hL : L ≤ 640) (hn : ¬ bxOk y L tb) (h1 : w 1 = oTape (nI L) a b c d e) (h2 : w 2 = aI 640 tb) (h33 : w 33 = oBox rg wl wy) (h34 : w 34 = aI 12 ra) (h35 : w 35 = aI 12 wa) :
    ab_C X l i_Box_take [.ref 33, .ref 1, .int y] w n 0 0 (qI (nI 0) fun w' n' => n = n' ∧ Fr (fun k => 33 ≤ k ∧ k ≤ 35) w w' ∧ (∃ rg wl, w' 33 = oBox rg wl wy) ∧ ∃ ra' wa', w' 34 = aI 12 ra' ∧ w' 35 = aI 12 wa') := by
  have no : ∀ w9, w9 33 = oBox rg wl wy → w9 34 = aI 12 ra → w9 35 = aI 12 wa → qI (nI 0) (fun w' n' => n = n' ∧ Fr (fun k => 33 ≤ k ∧ k ≤ 35) w9 w' ∧ (∃ rg wl, w' 33 = oBox rg wl wy) ∧ ∃ ra' wa', w' 34 = aI 12 ra' ∧ w' 35 = aI 12 wa') (some (.int (nI 0))) w9 n := fun w9 q1 q2 q3 => ⟨rfl, rfl, Fr.refl, ⟨rg, wl, q1⟩, ra, wa, q2, q3⟩
  by_cases hR : ∃ R, y = nI R ∧ (1 ≤ R ∧ R ≤ 12) ∧ R + 1 ≤ L ∧ L ≤ R + 12
  · obtain ⟨R, rfl, hR, hL1, hL2⟩ := hR
    have hs : nI L - nI R = nI (L - R) := pk_sub (by omega)
    have hbad : ∃ i, i < L ∧ ¬ (nI 3 ≤ tb i ∧ tb i ≤ nI 200) := Classical.byContradiction (fun z => hn ⟨R, L - R, rfl, hR, by omega, by omega, fun i hi => Classical.byContradiction (fun q => z ⟨i, hi, q⟩)⟩)
    obtain ⟨k, hk, hkb⟩ := hbad
    have loop : ∀ i, i ≤ k → ∀ w3 ra wa, Fr (fun k => 33 ≤ k ∧ k ≤ 35) w w3 → (∃ rg wl, w3 33 = oBox rg wl wy) → w3 34 = aI 12 ra → w3 35 = aI 12 wa → ∀ l4 : Option Value, ab_Ev X l i_Box_take 51 [some (.ref 33), some (.ref 1), some (.int (nI R)), some (.int (nI i)), l4] [] w3 n 0 0 (qI (nI 0) fun w' n' => n = n' ∧ Fr (fun k => 33 ≤ k ∧ k ≤ 35) w w' ∧ (∃ rg wl, w' 33 = oBox rg wl wy) ∧ ∃ ra' wa', w' 34 = aI 12 ra' ∧ w' 35 = aI 12 wa') := by
      refine ab_up k ?_ (fun i hi ih => ?_)
      · intro w3 ra wa hf ⟨rg, wl, k33⟩ k34 k35 l4
        have k1 := hf.get h1 (by omega)
        have k2 := hf.get h2 (by omega)
        have fin : qI (nI 0) (fun w' n' => n = n' ∧ Fr (fun k => 33 ≤ k ∧ k ≤ 35) w w' ∧ (∃ rg wl, w' 33 = oBox rg wl wy) ∧ ∃ ra' wa', w' 34 = aI 12 ra' ∧ w' 35 = aI 12 wa') (some (.int (nI 0))) w3 n := ⟨rfl, rfl, hf, ⟨rg, wl, k33⟩, ra, wa, k34, k35⟩
        obtain ⟨w3, rfl⟩ := va_ex5 k1 k2 k33 k34 k35
        refine ab_sound ok_1 [51] 80 ?_
        refine And.intro (fun h_9 => absurd h_9 (nI_ge hk (by omega))) (fun _ => ?_)
        (refine Exists.intro 0 ?_; refine ⟨0, _, Nat.zero_le _, Nat.zero_le _, c_Tape_byteAt _ k _ _ rfl (by omega) rfl rfl, ?_⟩; refine ab_q1_elim ?_)
        refine And.intro (fun e1 => ?_) (fun e1 => ?_)
        · exact ⟨rfl, fin⟩
        · refine And.intro (fun h_9 => absurd h_9 ((fun z => hkb ⟨by rw [i32_le]; rw [i32_lt] at e1; omega, z⟩))) (fun _ => ?_)
          exact ⟨rfl, fin⟩
      · intro w3 ra wa hf ⟨rg, wl, k33⟩ k34 k35 l4
        have k1 := hf.get h1 (by omega)
        have k2 := hf.get h2 (by omega)
        have fin : qI (nI 0) (fun w' n' => n = n' ∧ Fr (fun k => 33 ≤ k ∧ k ≤ 35) w w' ∧ (∃ rg wl, w' 33 = oBox rg wl wy) ∧ ∃ ra' wa', w' 34 = aI 12 ra' ∧ w' 35 = aI 12 wa') (some (.int (nI 0))) w3 n := ⟨rfl, rfl, hf, ⟨rg, wl, k33⟩, ra, wa, k34, k35⟩
        obtain ⟨w3, rfl⟩ := va_ex5 k1 k2 k33 k34 k35
        refine ab_sound ok_1 [51] 80 ?_
        refine And.intro (fun h_9 => absurd h_9 (nI_ge (show i < L by omega) (by omega))) (fun _ => ?_)
        (refine Exists.intro 0 ?_; refine ⟨0, _, Nat.zero_le _, Nat.zero_le _, c_Tape_byteAt _ i _ _ rfl (by omega) rfl rfl, ?_⟩; refine ab_q1_elim ?_)
        refine And.intro (fun e1 => ?_) (fun e1 => ?_)
        · exact ⟨rfl, fin⟩
        · refine And.intro (fun e2 => ?_) (fun e2 => ?_)
          · by_cases e : i < R
            · refine And.intro (fun h_9 => absurd h_9 (nI_ge e (by omega))) (fun _ => ?_)
              refine And.intro (vp_in_nI (by omega) (by omega)) ?_
              exact ab_ev_of (ih _ _ wa (hf.up (by omega)) ⟨rg, wl, rfl⟩ rfl rfl (some (.int (tb i)))) (by rw [nI_s i]; rfl) rfl rfl
            · refine And.intro (fun _ => ?_) (fun h_9 => absurd (nI_le (by omega) (by omega)) h_9)
              refine And.intro ((by rw [pk_sub (by omega)]; exact vp_in_nI (by omega) (by omega))) ?_
              exact ab_ev_of (ih _ ra _ (hf.up (by omega)) ⟨rg, wl, rfl⟩ rfl rfl (some (.int (tb i)))) (by rw [nI_s i]; rfl) rfl rfl
          · exact ⟨rfl, fin⟩
    have fin := loop 0 (by omega) (va_up w 33 (oBox (nI R) (nI (L - R)) wy)) ra wa (Fr.refl.up (by omega)) ⟨_, _, va_us⟩ ((va_un (by omega)).trans h34) ((va_un (by omega)).trans h35) none
    obtain ⟨w, rfl⟩ := va_ex2 h1 h33
    refine ab_mqI cd_1 om_1 rfl (ab_sound ok_1 [51] 80 ?_)
    refine And.intro (fun h_9 => absurd h_9 (nI_nlt (by omega) (by omega))) (fun _ => ?_)
    refine And.intro (fun h_9 => absurd h_9 (nI_nlt (by omega) (by omega))) (fun _ => ?_)
    refine And.intro (fun h_9 => absurd h_9 ((by rw [hs]; exact nI_nlt (by omega) (by omega)))) (fun _ => ?_)
    refine And.intro (fun _ => ?_) (fun h_9 => absurd ((by rw [hs]; exact nI_le (by omega) (by omega))) h_9)
    refine ab_ev_of fin rfl rfl ?_
    rw [va_uu]
    exact congrArg (fun q => va_up _ 33 (oBox (nI R) q wy)) hs
  · have no := no w h33 h34 h35
    obtain ⟨w, rfl⟩ := va_ex2 h1 h33
    refine ab_mqI cd_1 om_1 rfl (ab_sound ok_1 [51] 80 ?_)
    refine And.intro (fun e1 => ?_) (fun e1 => ?_)
    · exact ⟨rfl, no⟩
    refine And.intro (fun e2 => ?_) (fun e2 => ?_)
    · exact ⟨rfl, no⟩
    have hy : ∃ R, 1 ≤ R ∧ R ≤ 12 ∧ y = nI R := by
      rw [i32_lt] at e1 e2
      have q1 := nI_toInt (show 1 < 2 ^ 31 by omega)
      have q2 := nI_toInt (show 12 < 2 ^ 31 by omega)
      exact ⟨y.toInt.toNat, by omega, by omega, nI_of_toInt (by omega)⟩
    obtain ⟨R, r1, r2, rfl⟩ := hy
    have hsI : (nI L - nI R).toInt = (L : Int) - R := pk_sub_toInt (by omega) (by omega)
    refine And.intro (fun e3 => ?_) (fun e3 => ?_)
    · exact ⟨rfl, no⟩
    refine And.intro (fun e4 => ?_) (fun e4 => ?_)
    · exfalso
      apply hR
      rw [i32_lt, hsI] at e3
      rw [i32_le, hsI] at e4
      have q1 := nI_toInt (show 1 < 2 ^ 31 by omega)
      have q2 := nI_toInt (show 12 < 2 ^ 31 by omega)
      exact ⟨R, rfl, ⟨r1, r2⟩, by omega, by omega⟩
    · exact ⟨rfl, no⟩
abbrev FD (k : Nat) : Prop := k = 1 ∨ (17 ≤ k ∧ k ≤ 39)
theorem FD_FS (k : Nat) (h : FD k) : ¬ FS k := by unfold FS; omega
theorem KC.fd {w w' : ab_W} {n kn ks : Nat} {lf : Int32} {N : Nat → Nat} {R : Nat → Nat → Nat → Int64} (h : KC w n kn ks lf N R) (hf : Fr FD w w') (hs : KS0 w') (ho : KO w') : KC w' n kn ks lf N R := by
  obtain ⟨⟨h0, hK, hS, g, h43⟩, -⟩ := h
  exact ⟨⟨hf.get h0 (by omega), hs, hS.fr hf (fun k hk => ⟨by omega, FD_FS k hk⟩) (Nat.le_refl _), g, hf.get h43 (by omega)⟩, ho⟩
/-- a box that isn't as told -/
theorem k_WP_made_bad (x y : Int32) (L : Nat) (w : ab_W) (n : Nat) {kn ks : Nat} {lf a b c d e wy : Int32} {tb a1 a2 a3 a4 : Nat → Int32} (hL : L ≤ 640) (hn : ¬ bxOk y L tb) (h0 : w 0 = oWP kn ks lf) (h1 : w 1 = oTape (nI L) a b c d e) (h2 : w 2 = aI 640 tb) (hX : KX w wy a1 a2 a3 a4) :
    ab_C X l i_WP_made [.ref 0, .int x, .int y] w n 0 0 (qI (-nI 2) fun w' n' => n = n' ∧ Fr (fun k => k = 1 ∨ (33 ≤ k ∧ k ≤ 35)) w w' ∧ w' 1 = oTape (nI 0) a b c d e ∧ KX w' wy a1 a2 a3 a4) := by
  obtain ⟨⟨rg, wl, x33⟩, ⟨f34, x34⟩, ⟨f35, x35⟩, x36, x37, x38, x39⟩ := hX
  obtain ⟨w9, rfl⟩ := va_ex3 h0 h1 x33
  refine ab_mqI cd_140 om_140 rfl (ab_sound ok_140 [] 80 ?_)
  (refine Exists.intro 0 ?_; refine ⟨0, _, Nat.zero_le _, Nat.zero_le _, k_take_n _ L _ _ hL hn rfl h2 rfl x34 x35, ?_⟩; rintro _ w1 _ ⟨rfl, rfl, f1, ⟨rg', wl', f2⟩, f3, f4, f5, f6⟩)
  have q0 : w1 0 = oWP kn ks lf := f1.get rfl (by omega)
  have q1 : w1 1 = oTape (nI L) a b c d e := f1.get rfl (by omega)
  have q36 := f1.get x36 (by omega)
  have q37 := f1.get x37 (by omega)
  have q38 := f1.get x38 (by omega)
  have q39 := f1.get x39 (by omega)
  obtain ⟨w1, rfl⟩ := va_ex2 q0 q1
  refine And.intro (fun h_9 => absurd (rfl) h_9) (fun _ => ?_)
  have f9 : ∀ q : va_E, Fr (fun k => k = 1) (va_up (va_up w1 1 (oTape (nI L) a b c d e)) 0 (oWP kn ks lf)) (va_up (va_up (va_up w1 1 (oTape (nI L) a b c d e)) 0 (oWP kn ks lf)) 1 q) := fun q => Fr.refl.up rfl
  exact ⟨rfl, rfl, f1.tr (f9 _) (fun k hk => by omega) (fun k hk => by omega), rfl, ⟨_, _, (f9 _).get f2 (by omega)⟩, ⟨_, (f9 _).get f5 (by omega)⟩, ⟨_, (f9 _).get f6 (by omega)⟩, (f9 _).get q36 (by omega), (f9 _).get q37 (by omega), (f9 _).get q38 (by omega), (f9 _).get q39 (by omega)⟩
end MADE
