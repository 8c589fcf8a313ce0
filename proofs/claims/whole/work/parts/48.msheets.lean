section MSHEETS
variable {X : ab_X} {l : Launch}
/-- the model's powers are laid for N -/
def MN (w : ab_W) (s : Nat → Int32) (N : Nat) : Prop := (3 ≤ N ∧ N ≤ 60) ∧ (s 38 = nI N ∧ s 39 = nI (phi N)) ∧ ∃ f g h : Nat → Int32, w 111 = aI 64 f ∧ w 112 = aI 64 g ∧ w 113 = aI 3600 h ∧ PowIs N h
def MN0 (w : ab_W) (s : Nat → Int32) : Prop := (s 38 = nI 0 ∧ ∃ f g h : Nat → Int32, w 111 = aI 64 f ∧ w 112 = aI 64 g ∧ w 113 = aI 3600 h) ∨ ∃ N, MN w s N
theorem MN.fr {F G : Nat → Prop} {w w' : ab_W} {s s' : Nat → Int32} {N : Nat} (h : MN w s N) (hf : Fr F w w') (hg : Fr G s s') (h1 : ¬ F 111) (h2 : ¬ F 112) (h3 : ¬ F 113) (g1 : ¬ G 38) (g2 : ¬ G 39) : MN w' s' N := by
  obtain ⟨h0, ⟨k1, k2⟩, f, g, h, k3, k4, k5, k6⟩ := h
  exact ⟨h0, ⟨hg.get k1 g1, hg.get k2 g2⟩, f, g, h, hf.get k3 h1, hf.get k4 h2, hf.get k5 h3, k6⟩
theorem MN0.fr {F G : Nat → Prop} {w w' : ab_W} {s s' : Nat → Int32} (h : MN0 w s) (hf : Fr F w w') (hg : Fr G s s') (h1 : ¬ F 111) (h2 : ¬ F 112) (h3 : ¬ F 113) (g1 : ¬ G 38) (g2 : ¬ G 39) : MN0 w' s' := by
  rcases h with ⟨k0, f, g, h, k1, k2, k3⟩ | ⟨N, h⟩
  · exact Or.inl ⟨hg.get k0 g1, f, g, h, hf.get k1 h1, hf.get k2 h2, hf.get k3 h3⟩
  · exact Or.inr ⟨N, h.fr hf hg h1 h2 h3 g1 g2⟩
abbrev FN (k : Nat) : Prop := k = 90 ∨ (111 ≤ k ∧ k ≤ 113)
abbrev GN (k : Nat) : Prop := 38 ≤ k ∧ k ≤ 40
theorem k_layN (x : Int32) (N : Nat) (w : ab_W) (n : Nat) {s : Nat → Int32} {wd tn : Int64} (hx : x = nI N) (hN : 3 ≤ N ∧ N ≤ 60) (h0 : w 90 = oMod s wd tn) (h : MN0 w s) : ab_C X l i_Mod_layN [.ref 90, .int x] w n 0 0 (qV fun w' n' => n = n' ∧ Fr FN w w' ∧ ∃ s', w' 90 = oMod s' wd tn ∧ Fr GN s s' ∧ MN w' s' N) := by
  have gen : (∃ f g h : Nat → Int32, w 111 = aI 64 f ∧ w 112 = aI 64 g ∧ w 113 = aI 3600 h) → s 38 ≠ nI N → ab_C X l i_Mod_layN [.ref 90, .int x] w n 0 0 (qV fun w' n' => n = n' ∧ Fr FN w w' ∧ ∃ s', w' 90 = oMod s' wd tn ∧ Fr GN s s' ∧ MN w' s' N) := by
    rintro ⟨f, g, h, k1, k2, k3⟩ hv
    refine ab_C.weaken (c_Mod_layN x N w n hx hv hN.2 hN.1 h0 k1 k2 k3) ?_
    rintro v w' n' ⟨rfl, hn, f', g', h', d, rfl, hP⟩
    subst hn
    refine ⟨rfl, rfl, (((Fr.refl.up (by omega)).up (by omega)).up (by omega)).up (by omega), sND s N d, ?_, ((Fr.refl.us (by omega)).us (by omega)).us (by omega), hN, ⟨?_, ?_⟩, f', g', h', ?_, ?_, va_us, hP⟩
    · rw [va_un (by omega), va_un (by omega), va_un (by omega), va_us]
    · unfold sND; rw [upd_ne (by omega), upd_ne (by omega), upd_at]
    · unfold sND; rw [upd_ne (by omega), upd_at]
    · rw [va_un (by omega), va_un (by omega), va_us]
    · rw [va_un (by omega), va_us]
  rcases h with ⟨k0, k1⟩ | ⟨M, hM⟩
  · exact gen k1 (fun z => by rw [k0] at z; have := (nI_eq (by omega) (by omega)).mp z; omega)
  · by_cases e : M = N
    · subst e
      refine ab_C.weaken (c_Mod_layN_same x w n (hM.2.1.1.trans hx.symm) h0) ?_
      rintro _ _ _ ⟨rfl, rfl, rfl⟩
      exact ⟨rfl, rfl, Fr.refl, s, h0, Fr.refl, hM⟩
    · obtain ⟨a0, ⟨a1, a2⟩, f, g, h, a3, a4, a5, a6⟩ := hM
      exact gen ⟨f, g, h, a3, a4, a5⟩ (fun z => by rw [a1] at z; exact e ((nI_eq (by omega) (by omega)).mp z))
/-- the model's sheets -/
def MSh (w : ab_W) (N : Nat → Nat) (R : Nat → Nat → Nat → Int64) : Prop := NOk N ∧ ∃ (pt : Nat → Int32) (g : Nat → Int64), w 115 = aI 8 pt ∧ (∀ t, t < 8 → pt t = nI (N t)) ∧ w 116 = aJ 28800 g ∧ ∀ t k i, t < 8 → k < N t → i < phi (N t) → g (3600 * t + 60 * k + i) = R t k i
theorem MSh.fr {F : Nat → Prop} {w w' : ab_W} {N : Nat → Nat} {R : Nat → Nat → Nat → Int64} (h : MSh w N R) (hf : Fr F w w') (h1 : ¬ F 115) (h2 : ¬ F 116) : MSh w' N R := by
  obtain ⟨h0, pt, g, k1, k2, k3, k4⟩ := h
  exact ⟨h0, pt, g, hf.get k1 h1, k2, hf.get k3 h2, k4⟩
theorem k_has_y (x : Int32) (t : Nat) (w : ab_W) (n : Nat) {s : Nat → Int32} {wd tn : Int64} {N : Nat → Nat} {R : Nat → Nat → Nat → Int64} (hx : x = nI t) (ht : t < 8) (hN : N t ≠ 0) (h0 : w 90 = oMod s wd tn) (h : MN0 w s) (hS : MSh w N R) : ab_C X l i_Mod_has [.ref 90, .int x] w n 0 0 (qI (nI 1) fun w' n' => n = n' ∧ Fr FN w w' ∧ ∃ s', w' 90 = oMod s' wd tn ∧ Fr GN s s' ∧ MN w' s' (N t)) := by
  subst hx
  obtain ⟨a0, pt, g, k1, k2, k3, k4⟩ := hS
  have hR := (a0 t ht).resolve_left hN
  obtain ⟨w, rfl⟩ := va_ex2 h0 k1
  refine ab_mqI cd_217 om_217 rfl (ab_sound ok_217 [] 50 ?_)
  (refine Exists.intro 0 ?_; refine ⟨0, _, Nat.zero_le _, Nat.zero_le _, c_Mod_isSheet_y _ t _ _ rfl ht, ?_⟩; rintro _ _ _ ⟨rfl, rfl, rfl⟩)
  refine And.intro (fun h_9 => absurd h_9 ((by decide))) (fun _ => ?_)
  refine And.intro (vp_in_nI ht (by omega)) ?_
  rw [nI_clamp (by omega), k2 t ht]
  refine And.intro (fun _ => ?_) (fun h_9 => absurd h_9 (nI_ne0 (by omega) (by omega)))
  refine And.intro (vp_in_nI ht (by omega)) ?_
  rw [nI_clamp (by omega), k2 t ht]
  (refine Exists.intro 0 ?_; refine ⟨0, _, Nat.zero_le _, Nat.zero_le _, k_layN _ (N t) _ _ rfl hR h0 h, ?_⟩; rintro _ w1 _ ⟨rfl, rfl, e1, s', e2, e3, e4⟩)
  exact ⟨rfl, rfl, rfl, e1, s', e2, e3, e4⟩
theorem k_has_n (x : Int32) (w : ab_W) (n : Nat) {s : Nat → Int32} {wd tn : Int64} {N : Nat → Nat} {R : Nat → Nat → Nat → Int64} (hx : (x < 0 ∨ nI 8 ≤ x) ∨ ∃ t, t < 8 ∧ x = nI t ∧ N t = 0) (h0 : w 90 = oMod s wd tn) (hS : MSh w N R) : ab_C X l i_Mod_has [.ref 90, .int x] w n 0 0 (ab_q1 (some (.int (nI 0))) w n) := by
  obtain ⟨a0, pt, g, k1, k2, k3, k4⟩ := hS
  obtain ⟨w, rfl⟩ := va_ex2 h0 k1
  refine ab_metI cd_217 om_217 rfl (ab_sound ok_217 [] 50 ?_)
  rcases hx with hx | ⟨t, ht, hx, hN⟩
  · (refine Exists.intro 0 ?_; refine ⟨0, _, Nat.zero_le _, Nat.zero_le _, c_Mod_isSheet_n _ _ _ hx, ?_⟩; rintro _ _ _ ⟨rfl, rfl, rfl⟩)
    refine And.intro (fun _ => ?_) (fun h_9 => absurd ((by decide)) h_9)
    exact ⟨rfl, rfl, rfl, rfl⟩
  · subst hx
    (refine Exists.intro 0 ?_; refine ⟨0, _, Nat.zero_le _, Nat.zero_le _, c_Mod_isSheet_y _ t _ _ rfl ht, ?_⟩; rintro _ _ _ ⟨rfl, rfl, rfl⟩)
    refine And.intro (fun h_9 => absurd h_9 ((by decide))) (fun _ => ?_)
    refine And.intro (vp_in_nI ht (by omega)) ?_
    rw [nI_clamp (by omega), k2 t ht, hN]
    refine And.intro (fun h_9 => absurd ((by rfl)) h_9) (fun _ => ?_)
    exact ⟨rfl, rfl, rfl, rfl⟩
def Rm (M : Nat) (g : Nat → Int64) (V : Nat → Nat → Int64) : Prop := ∀ k i, k < M → i < phi M → g (60 * k + i) = V k i
/-- a whole row of rows is being put -/
def lyF (b i : Nat) (r g : Nat → Int64) : Nat → Int64 := fun j => if b ≤ j ∧ j < b + i then r (j - b) else g j
theorem k_lay (x : Int32) (t M : Nat) (w : ab_W) (n : Nat) {s : Nat → Int32} {wd tn : Int64} {N : Nat → Nat} {R : Nat → Nat → Nat → Int64} {g : Nat → Int64} {V : Nat → Nat → Int64} (hx : x = nI t) (ht : t < 8) (hM : 3 ≤ M ∧ M ≤ 60) (h0 : w 90 = oMod s wd tn) (hs : s 38 = nI M) (hS : MSh w N R) (h7 : w 117 = aJ 3600 g) (hg : Rm M g V) : ab_C X l i_Mod_lay [.ref 90, .int x, .ref 117] w n 0 0 (qV fun w' n' => n = n' ∧ Fr (fun k => k = 115 ∨ k = 116) w w' ∧ MSh w' (va_up N t M) (va_up R t V)) := by
  subst hx
  obtain ⟨a0, pt, r, k1, k2, k3, k4⟩ := hS
  obtain ⟨w, rfl⟩ := va_ex4 h7 k3 k1 h0
  refine ab_mqV cd_203 om_203 rfl rfl (ab_sound ok_203 [2] 50 ?_)
  have loop : ∀ i, i ≤ 3600 → ab_Ev X l i_Mod_lay 2 [some (.ref 90), some (.int (nI t)), some (.ref 117), some (.int (nI i))] [] (va_up (va_up (va_up (va_up w 90 (oMod s wd tn)) 115 (aI 8 pt)) 116 (aJ 28800 (lyF (3600 * t) i g r))) 117 (aJ 3600 g)) n 0 0 (qV fun w' n' => n = n' ∧ Fr (fun k => k = 115 ∨ k = 116) (va_up (va_up (va_up (va_up w 90 (oMod s wd tn)) 115 (aI 8 pt)) 116 (aJ 28800 r)) 117 (aJ 3600 g)) w' ∧ MSh w' (va_up N t M) (va_up R t V)) := by
    refine ab_up 3600 ?_ (fun i hi ih => ?_)
    · refine ab_sound ok_203 [2] 50 ?_
      refine And.intro (fun _ => ?_) (fun h_9 => absurd (nI_le (Nat.le_refl _) (by omega)) h_9)
      refine And.intro (vp_in_nI ht (by omega)) ?_
      rw [nI_clamp (by omega), hs]
      have e1 : va_up (va_up (va_up (va_up (va_up w 90 (oMod s wd tn)) 115 (aI 8 pt)) 116 (aJ 28800 (lyF (3600 * t) 3600 g r))) 117 (aJ 3600 g)) 115 (aI 8 (upd pt t (nI M))) = va_up (va_up (va_up (va_up (va_up (va_up w 90 (oMod s wd tn)) 115 (aI 8 pt)) 116 (aJ 28800 r)) 117 (aJ 3600 g)) 115 (aI 8 (upd pt t (nI M)))) 116 (aJ 28800 (lyF (3600 * t) 3600 g r)) := by
        funext j
        simp only [va_up]
        split <;> split <;> (try split) <;> (try split) <;> (try omega) <;> rfl
      refine ⟨rfl, rfl, ?_, ?_, upd pt t (nI M), lyF (3600 * t) 3600 g r, ?_, ?_, ?_, ?_⟩
      · exact Eq.mpr (congrArg (Fr _ _) e1) ((Fr.refl.up (by omega)).up (by omega))
      · intro u hu
        by_cases e : u = t
        · subst e; rw [va_us]; omega
        · rw [va_un e]; exact a0 u hu
      · exact va_us
      · intro u hu
        by_cases e : u = t
        · subst e; rw [va_us, upd_at]
        · rw [va_un e, upd_ne e]; exact k2 u hu
      · rfl
      · intro u k i hu hk hi
        by_cases e : u = t
        · subst e
          rw [va_us] at hk hi
          have := phi_le M hM.2
          rw [va_us]
          unfold lyF
          rw [if_pos (by omega), show 3600 * u + 60 * k + i - 3600 * u = 60 * k + i by omega]
          exact hg k i hk hi
        · rw [va_un e] at hk hi ⊢
          have h9 : N u ≤ 60 := by have := a0 u hu; omega
          have := phi_le (N u) h9
          unfold lyF
          rw [if_neg (by omega)]
          exact k4 u k i hu hk hi
    · refine ab_sound ok_203 [2] 50 ?_
      refine And.intro (fun h_9 => absurd h_9 (nI_ge hi (by omega))) (fun _ => ?_)
      refine And.intro (vp_in_nI hi (by omega)) ?_
      refine And.intro ((by rw [pk_mul, nI_add]; exact vp_in_nI (by omega) (by omega))) ?_
      refine ab_ev_of ih (by rw [nI_s i]; rfl) rfl ?_
      rw [pk_mul, nI_add, nI_clamp (by omega), nI_clamp (by omega), va_uc (by omega), va_uu]
      refine congrArg (fun z => va_up (va_up _ 116 (aJ 28800 z)) _ _) ?_
      funext j
      unfold vp_updL lyF
      by_cases e : j = 3600 * t + i
      · rw [if_pos e, if_pos (by omega), e]
        congr 1
        omega
      · rw [if_neg e]
        by_cases e2 : 3600 * t ≤ j ∧ j < 3600 * t + i
        · rw [if_pos e2, if_pos (by omega)]
        · rw [if_neg e2, if_neg (by omega)]
  refine ab_ev_of (loop 0 (by omega)) rfl rfl ?_
  refine congrArg (fun z => va_up (va_up _ 116 (aJ 28800 z)) _ _) ?_
  funext j
  unfold lyF
  rw [if_neg (by omega)]
/-- all numbers are within a million -/
def wiB (M : Nat) (V : Nat → Nat → Int64) : Bool := decide (∀ k, k < M → ∀ i, i < phi M → ¬ (1000000 : Int64) < V k i ∧ ¬ V k i < (-1000000 : Int64))
theorem c_Mod_isSmall (M : Nat) (w : ab_W) (n : Nat) {s : Nat → Int32} {wd tn : Int64} {g : Nat → Int64} {V : Nat → Nat → Int64} (hM : 3 ≤ M ∧ M ≤ 60) (h0 : w 90 = oMod s wd tn) (hs : s 38 = nI M) (hs2 : s 39 = nI (phi M)) (h7 : w 117 = aJ 3600 g) (hg : Rm M g V) : ab_C X l i_Mod_isSmall [.ref 90, .ref 117] w n 0 0 (ab_q1 (some (.int (b01 (wiB M V)))) w n) := by
  obtain ⟨w, rfl⟩ := va_ex2 h7 h0
  have hp := phi_le M hM.2
  refine ab_metI cd_214 om_214 rfl (ab_sound ok_214 [2] 50 ?_)
  have loop : ∀ k, k ≤ M → (∀ j, j < k → ∀ i, i < phi M → ¬ (1000000 : Int64) < V j i ∧ ¬ V j i < (-1000000 : Int64)) → ∀ (l3 : Option Value), ab_Ev X l i_Mod_isSmall 2 [some (.ref 90), some (.ref 117), some (.int (nI k)), l3] [] (va_up (va_up w 90 (oMod s wd tn)) 117 (aJ 3600 g)) n 0 0 (ab_q1 (some (.int (b01 (wiB M V)))) (va_up (va_up w 90 (oMod s wd tn)) 117 (aJ 3600 g)) n) := by
    refine ab_up M ?_ (fun k hk ih => ?_)
    · intro hj l3
      refine ab_sound ok_214 [2] 50 ?_
      refine And.intro (fun _ => ?_) (fun h_9 => absurd ((by rw [hs]; exact nI_le (Nat.le_refl _) (by omega))) h_9)
      have e : wiB M V = true := decide_eq_true hj
      rw [e]
      exact ⟨rfl, rfl, rfl, rfl⟩
    · intro hj l3
      refine ab_sound ok_214 [2, 12] 50 ?_
      refine And.intro (fun h_9 => absurd h_9 ((by rw [hs]; exact nI_ge hk (by omega)))) (fun _ => ?_)
      have inn : ∀ i, i ≤ phi M → (∀ m, m < i → ¬ (1000000 : Int64) < V k m ∧ ¬ V k m < (-1000000 : Int64)) → ab_Ev X l i_Mod_isSmall 12 [some (.ref 90), some (.ref 117), some (.int (nI k)), some (.int (nI i))] [] (va_up (va_up w 90 (oMod s wd tn)) 117 (aJ 3600 g)) n 0 0 (ab_q1 (some (.int (b01 (wiB M V)))) (va_up (va_up w 90 (oMod s wd tn)) 117 (aJ 3600 g)) n) := by
        have bad : ∀ i, i < phi M → ((1000000 : Int64) < V k i ∨ V k i < (-1000000 : Int64)) → wiB M V = false := by
          intro i hi hb
          rw [← Bool.not_eq_true]
          intro z
          have := of_decide_eq_true z k hk i hi
          exact hb.elim this.1 this.2
        refine ab_up (phi M) ?_ (fun i hi ih2 => ?_)
        · intro hm
          refine ab_sound ok_214 [2, 12] 50 ?_
          refine And.intro (fun _ => ?_) (fun h_9 => absurd ((by rw [hs2]; exact nI_le (Nat.le_refl _) (by omega))) h_9)
          refine ab_ev_of (ih (fun j hj2 => ?_) (some (.int (nI (phi M))))) (by rw [nI_s k]; rfl) rfl rfl
          by_cases e : j = k
          · rw [e]; exact hm
          · exact hj j (by omega)
        · intro hm
          refine ab_sound ok_214 [2, 12] 50 ?_
          refine And.intro (fun h_9 => absurd h_9 ((by rw [hs2]; exact nI_ge hi (by omega)))) (fun _ => ?_)
          refine And.intro ((by rw [pk_mul, nI_add]; exact vp_in_nI (by omega) (by omega))) ?_
          have e9 : g ((nI 60 * nI k + nI i).toNatClampNeg) = V k i := by rw [pk_mul, nI_add, nI_clamp (by omega)]; exact hg k i hk hi
          refine And.intro (fun hc => ?_) (fun hc => ?_)
          · have hc := lg_gt.mp hc
            rw [bad i hi (Or.inl (e9 ▸ hc))]
            exact ⟨rfl, rfl, rfl, rfl⟩
          · refine And.intro ((by rw [pk_mul, nI_add]; exact vp_in_nI (by omega) (by omega))) ?_
            refine And.intro (fun hd => ?_) (fun hd => ?_)
            · have hd := lg_ge0.mp hd
              refine ab_ev_of (ih2 (fun m hm2 => ?_)) (by rw [nI_s i]; rfl) rfl rfl
              by_cases e : m = i
              · rw [e]
                refine ⟨fun z => hc (lg_gt.mpr ?_), fun z => ?_⟩
                · exact Eq.mpr (congrArg (fun q => (1000000 : Int64) < q) e9) z
                · have hd2 : (-1000000 : Int64) ≤ V k i := e9 ▸ hd
                  rw [i64_lt] at z
                  rw [i64_le] at hd2
                  omega
              · exact hm m (by omega)
            · have hd2 : V k i < (-1000000 : Int64) := by
                rw [i64_lt]
                have h8 : ¬ (-1000000 : Int64) ≤ V k i := fun z => hd (lg_ge0.mpr (Eq.mpr (congrArg (fun q => (-1000000 : Int64) ≤ q) e9) z))
                rw [i64_le] at h8
                omega
              rw [bad i hi (Or.inr hd2)]
              exact ⟨rfl, rfl, rfl, rfl⟩
      exact ab_ev_of (inn 0 (by omega) (fun m hm => by omega)) rfl rfl rfl
  exact loop 0 (by omega) (fun j hj => by omega) none
end MSHEETS
