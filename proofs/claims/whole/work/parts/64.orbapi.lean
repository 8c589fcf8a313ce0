theorem Fr.tr {α : Type} {F G H : Nat → Prop} {w w1 w2 : Nat → α} (h1 : Fr F w w1) (h2 : Fr G w1 w2) (a : ∀ k, F k → H k) (b : ∀ k, G k → H k) : Fr H w w2 := (h1.mono a).trans (h2.mono b)
theorem fst_congr {P Q : Nat → Bool} : ∀ r i, (∀ k, i ≤ k → k < i + r → P k = Q k) → fst P r i = fst Q r i
  | 0, _, _ => rfl
  | r + 1, i, h => by
    rw [fst_s, fst_s, h i (Nat.le_refl _) (by omega), fst_congr r (i + 1) (fun k h1 h2 => h k (by omega) (by omega))]
theorem fmV_congr {N : Nat} {P Q : Nat → Nat → Bool} (h : ∀ t m, t < N → m < N → P t m = Q t m) : fmV N P = fmV N Q := by
  have e1 : fst (fun t => exB (P t) N) N 0 = fst (fun t => exB (Q t) N) N 0 := fst_congr _ _ (fun t _ ht => exB_congr (fun m hm => h t m (by omega) hm))
  unfold fmV
  rw [e1]
  by_cases e : fst (fun t => exB (Q t) N) N 0 < N
  · rw [if_pos e, if_pos e, fst_congr (P := P _) (Q := Q _) _ _ (fun m _ hm => h _ m e (by omega))]
  · rw [if_neg e, if_neg e]
theorem dcnt_congr {N : Nat} {P Q : Nat → Nat → Bool} : ∀ n, (∀ t, t < n → cnt (P t) N = cnt (Q t) N) → dcnt P N n = dcnt Q N n
  | 0, _ => rfl
  | n + 1, h => by
    show dcnt P N n + cnt (P n) N = dcnt Q N n + cnt (Q n) N
    rw [dcnt_congr n (fun t ht => h t (by omega)), h n (by omega)]
theorem slot_tv {N K : Nat} {G : Nat → Int64} {kd td : Nat → Int32} {a b t : Nat} {ra rb : Nat → Int64} (hN : 3 ≤ N ∧ N ≤ 60) (hK : K ≤ 120) (hD : Dist N K G) (ha : SltIs N K G kd td a ra) (hb : SltIs N K G kd td b rb) (hB : Bd (phi N) ra) (ht : t < N) : itB N kd td a b (nI t) = lkB (phi N) ra (tv N t rb) := by
  have h1 := nI_toInt (show t < 2 ^ 31 by omega)
  have := slot_turn (t := nI t) hN hK hD ha hb hB (by omega)
  rw [h1, md_nat, Nat.mod_eq_of_lt ht] at this
  exact this
theorem lk_tm {N : Nat} {r x y : Nat → Int64} (h : Lk (phi N) x y) : lkB (phi N) r x = lkB (phi N) r y := by
  unfold lkB
  apply decide_eq_decide.mpr
  exact ⟨fun q i hi => by rw [← h i hi]; exact q i hi, fun q i hi => by rw [h i hi]; exact q i hi⟩
theorem ShIs.bd {w : ab_W} {q N a : Nat} {R : Nat → Nat → Int64} (h : ShIs w q N a R) {k : Nat} (hk : k < N) : Bd (phi N) (R k) := by
  obtain ⟨-, ⟨f, -, hf⟩, -⟩ := h
  intro i hi
  rw [← hf k i hk hi, Int32.toInt_toInt64]
  have h1 := Int32.le_toInt (f (k * phi N + i))
  have h2 := Int32.toInt_lt (f (k * phi N + i))
  omega
def KO (w : ab_W) : Prop := (∃ a b c, w 20 = oOrb a b c) ∧ (∃ f, w 21 = aJ 6960 f) ∧ (∃ f, w 22 = aJ 58 f) ∧ (∃ f, w 23 = aJ 58 f) ∧ (∃ f, w 24 = aJ 58 f) ∧ (∃ f, w 25 = aI 120 f) ∧ ∃ f, w 26 = aI 120 f
theorem KO.fr {F : Nat → Prop} {w w' : ab_W} (h : KO w) (hf : Fr F w w') (hF : ∀ k, F k → ¬ FP k) : KO w' := by
  obtain ⟨⟨a, b, c, h0⟩, ⟨f1, h1⟩, ⟨f2, h2⟩, ⟨f3, h3⟩, ⟨f4, h4⟩, ⟨f5, h5⟩, f6, h6⟩ := h
  have q : ∀ k, FP k → ¬ F k := fun k a b => hF k b a
  exact ⟨⟨a, b, c, hf.get h0 (q _ (by omega))⟩, ⟨f1, hf.get h1 (q _ (by omega))⟩, ⟨f2, hf.get h2 (q _ (by omega))⟩, ⟨f3, hf.get h3 (q _ (by omega))⟩, ⟨f4, hf.get h4 (q _ (by omega))⟩, ⟨f5, hf.get h5 (q _ (by omega))⟩, f6, hf.get h6 (q _ (by omega))⟩
theorem OrbW.ko {w : ab_W} {N K : Nat} {G : Nat → Int64} {kd td : Nat → Int32} (h : OrbW w N K G kd td) (h2 : ∃ f, w 22 = aJ 58 f) : KO w := by
  obtain ⟨h0, h1, h3, h4, h5, h6⟩ := h
  exact ⟨⟨_, _, _, h0⟩, ⟨_, h1⟩, h2, h3, h4, ⟨_, h5⟩, _, h6⟩
theorem OrbW.fr {F : Nat → Prop} {w w' : ab_W} {N K : Nat} {G : Nat → Int64} {kd td : Nat → Int32} (h : OrbW w N K G kd td) (hf : Fr F w w') (hF : ∀ k, F k → ¬ FO k) : OrbW w' N K G kd td := by
  obtain ⟨h0, h1, ⟨f3, h3⟩, ⟨f4, h4⟩, h5, h6⟩ := h
  have q : ∀ k, FO k → ¬ F k := fun k a b => hF k b a
  exact ⟨hf.get h0 (q _ (by omega)), hf.get h1 (q _ (by omega)), ⟨f3, hf.get h3 (q _ (by omega))⟩, ⟨f4, hf.get h4 (q _ (by omega))⟩, hf.get h5 (q _ (by omega)), hf.get h6 (q _ (by omega))⟩
/-- begun -/
theorem KO.begun {w : ab_W} (h : KO w) (N : Nat) : ∃ G kd td, OrbW (va_up w 20 (oOrb (nI N) (nI (phi N)) (nI 0))) N 0 G kd td ∧ ∃ f, (va_up w 20 (oOrb (nI N) (nI (phi N)) (nI 0))) 22 = aJ 58 f := by
  obtain ⟨⟨a, b, c, h0⟩, ⟨f1, h1⟩, ⟨f2, h2⟩, ⟨f3, h3⟩, ⟨f4, h4⟩, ⟨f5, h5⟩, f6, h6⟩ := h
  exact ⟨f1, f5, f6, ⟨va_us, (va_un (by omega)).trans h1, ⟨f3, (va_un (by omega)).trans h3⟩, ⟨f4, (va_un (by omega)).trans h4⟩, (va_un (by omega)).trans h5, (va_un (by omega)).trans h6⟩, f2, (va_un (by omega)).trans h2⟩
theorem Dist0 (N : Nat) (G : Nat → Int64) : Dist N 0 G := fun c d hc => by omega
abbrev FA (k : Nat) : Prop := (17 ≤ k ∧ k ≤ 26) ∨ k = 43
theorem FA_FS (k : Nat) (h : FA k) : ¬ FS k := by unfold FS; omega
def KC (w : ab_W) (n kn ks : Nat) (lf : Int32) (N : Nat → Nat) (R : Nat → Nat → Nat → Int64) : Prop := KB w n kn ks lf N R ∧ KO w
def KCQ (w : ab_W) (n kn ks : Nat) (lf : Int32) (N : Nat → Nat) (R : Nat → Nat → Nat → Int64) : ab_W → Nat → Prop := fun w' n' => n = n' ∧ Fr FA w w' ∧ KC w' n' kn ks lf N R
theorem KC.mk' {w w' : ab_W} {n kn ks : Nat} {lf : Int32} {N : Nat → Nat} {R : Nat → Nat → Nat → Int64} (h : KC w n kn ks lf N R) (hf : Fr FA w w') (hs : KS0 w') (ho : KO w') (h43 : ∃ g, w' 43 = aJ 3480 g) : KCQ w n kn ks lf N R w' n := by
  obtain ⟨⟨h0, hK, hS, -⟩, -⟩ := h
  exact ⟨rfl, hf, ⟨hf.get h0 (by omega), hs, hS.fr hf (fun k hk => ⟨by omega, FA_FS k hk⟩) (Nat.le_refl _), h43⟩, ho⟩
/-- what one() answers -/
def oneV (N : Nat) (S R : Nat → Nat → Int64) : Int32 := if fmV N (bgB N S R false) = -nI 1 then (if fmV N (bgB N S R true) = -nI 1 then -nI 1 else nI 10000 + fmV N (bgB N S R true)) else fmV N (bgB N S R false)
section ORBAPI
variable {X : ab_X} {l : Launch}
theorem c_begin (w : ab_W) (n : Nat) {v p a b c : Int32} (h7 : w 17 = oSums v p) (h0 : w 20 = oOrb a b c) : ab_C X l i_Orb_begin [.ref 20, .ref 17] w n 0 0 (ab_q1 none (va_up w 20 (oOrb v p (nI 0))) n) := by
  obtain ⟨w, rfl⟩ := va_ex2 h0 h7
  refine ab_metV cd_33 om_33 rfl rfl (ab_sound ok_33 [] 50 ?_)
  exact ⟨rfl, (by first | rfl | (simp only [va_uu, va_uc, Nat.reduceLT]; done) | (simp only [va_uu, va_uc, Nat.reduceLT]; rfl)), rfl⟩
theorem k_WP_same_n (x y : Int32) (w : ab_W) (n : Nat) {N : Nat → Nat} {R : Nat → Nat → Nat → Int64} {kn ks : Nat} {lf : Int32} (hx : badS N x ∨ (y < 0 ∨ nI 3 ≤ y)) (h : KB w n kn ks lf N R) : ab_C X l i_WP_same [.ref 0, .int x, .int y] w n 0 0 (ab_q1 (some (.int (-nI 1))) w n) := by
  obtain ⟨h0, hK, hS, g, h43⟩ := h
  obtain ⟨w, rfl⟩ := va_ex h0
  refine ab_metI cd_128 om_128 rfl (ab_sound ok_128 [] 80 ?_)
  rcases sh_or N x with ⟨t, ht, e, hN⟩ | hb
  · (refine Exists.intro 0 ?_; refine ⟨0, _, Nat.zero_le _, Nat.zero_le _, k_sheetThatIs_y _ t _ _ e ht hN h0 hS, ?_⟩; refine ab_q1_elim ?_)
    have hy : y < 0 ∨ nI 3 ≤ y := by
      rcases hx with hx | hx
      · rcases hx with hx | ⟨u, hu, hx, hz⟩
        · exact absurd e (n_out (by omega) ht hx)
        · rw [e] at hx
          have := (nI_eq (by omega) (by omega)).mp hx
          subst this
          exact absurd hz hN
      · exact hx
    refine And.intro (fun e1 => ?_) (fun e1 => ?_)
    · exact ⟨rfl, rfl, rfl⟩
    · have h3 := hy.resolve_left e1
      refine And.intro (fun h_9 => absurd h_9 ((by rw [i32_le] at h3 ⊢; have q1 := nI_toInt (show 3 < 2 ^ 31 by omega); have q2 := nI_toInt (show 2 < 2 ^ 31 by omega); omega))) (fun _ => ?_)
      exact ⟨rfl, rfl, rfl⟩
  · (refine Exists.intro 0 ?_; refine ⟨0, _, Nat.zero_le _, Nat.zero_le _, k_sheetThatIs_n _ _ _ hb h0 hS, ?_⟩; refine ab_q1_elim ?_)
    exact ⟨rfl, rfl, rfl⟩
theorem k_WP_same2 (x : Int32) (t : Nat) (w : ab_W) (n : Nat) {N : Nat → Nat} {R : Nat → Nat → Nat → Int64} {kn ks : Nat} {lf : Int32} (hx : x = nI t) (ht : t < 8) (hN : N t ≠ 0) (h : KC w n kn ks lf N R) : ab_C X l i_WP_same [.ref 0, .int x, .int (nI 2)] w n 0 0 (qI (nI (cnt (fresh (phi (N t)) (DV (N t) (R t))) (N t))) (KCQ w n kn ks lf N R)) := by
  have hh := h
  obtain ⟨⟨h0, hK, hS, g0, h43⟩, hO⟩ := h
  obtain ⟨aa, hA, hM⟩ := hS.is ht hN
  obtain ⟨v7, p7, h17⟩ := hK.obj
  obtain ⟨w9, rfl⟩ := va_ex2 h0 h17
  refine ab_mqI cd_128 om_128 rfl (ab_sound ok_128 [] 120 ?_)
  (refine Exists.intro 0 ?_; refine ⟨0, _, Nat.zero_le _, Nat.zero_le _, k_sheetThatIs_y _ t _ _ hx ht hN h0 hS, ?_⟩; refine ab_q1_elim ?_)
  refine And.intro (fun h_9 => absurd h_9 ((by decide))) (fun _ => ?_)
  refine And.intro (fun _ => ?_) (fun h_9 => absurd ((by decide)) h_9)
  refine Exists.intro _ (Exists.intro _ (And.intro (hA.1) (And.intro rfl ?_)))
  (refine Exists.intro 0 ?_; refine ⟨0, _, Nat.zero_le _, Nat.zero_le _, k_choose _ (N t) _ _ rfl hM.2 hM.1 hK, ?_⟩; rintro _ w1 _ ⟨rfl, rfl, e1, e2⟩)
  refine And.intro (fun h_9 => absurd (rfl) h_9) (fun _ => ?_)
  have hw0 : w1 0 = oWP kn ks lf := e1.get rfl (by omega)
  have hB1 : KB w1 n kn ks lf N R := ⟨hw0, Or.inr ⟨_, e2⟩, hS.fr e1 (fun k hk => ⟨by omega, by unfold FS; omega⟩) (Nat.le_refl _), g0, e1.get h43 (by omega)⟩
  obtain ⟨w1, rfl⟩ := va_ex hw0
  (refine Exists.intro 0 ?_; refine ⟨0, _, Nat.zero_le _, Nat.zero_le _, k_WP_distances t _ _ ht hN hB1 e2, ?_⟩; rintro _ w2 _ ⟨rfl, rfl, f2, hB2⟩)
  have f9 := (e1.mono (fun k hk => by omega) : Fr FA _ _).trans (f2.mono (fun k hk => by omega))
  exact ⟨rfl, rfl, f9, hB2, hO.fr (e1.tr (H := fun k => k = 17 ∨ k = 18 ∨ FR k) f2 (fun k hk => by omega) (fun k hk => by omega)) (fun k hk => by omega)⟩
theorem OrbP.at0 {N K : Nat} {G : Nat → Int64} {kd td : Nat → Int32} {m K' : Nat} {G' : Nat → Int64} {kd' td' : Nat → Int32} {r : Nat → Nat → Int64} (h : OrbP N K G kd td 0 m K' G' kd' td' r) : ∀ k, k < m → SltIs N K' G' kd' td' k (r k) := fun k hk => by
  have := h.2.2.2.2.2 k hk
  rw [Nat.zero_add] at this
  exact this
theorem OrbP.old {N K : Nat} {G : Nat → Int64} {kd td : Nat → Int32} {s m K' j : Nat} {G' : Nat → Int64} {kd' td' : Nat → Int32} {r : Nat → Nat → Int64} {x : Nat → Int64} (h : OrbP N K G kd td s m K' G' kd' td' r) (hj : j < s) (hx : SltIs N K G kd td j x) : SltIs N K' G' kd' td' j x := by
  have q := h.2.2.2.2.1 j (by omega)
  exact hx.mono h.1 h.2.2.2.1 q.1 q.2
theorem OrbP.old2 {N K : Nat} {G : Nat → Int64} {kd td : Nat → Int32} {s m K' j : Nat} {G' : Nat → Int64} {kd' td' : Nat → Int32} {r : Nat → Nat → Int64} {x : Nat → Int64} (h : OrbP N K G kd td s m K' G' kd' td' r) (hj : j < s) (hx : SltIs N K G kd td j x) : SltIs N K G' kd' td' j x := by
  have q := h.2.2.2.2.1 j (by omega)
  exact hx.mono (Nat.le_refl _) h.2.2.2.1 q.1 q.2
theorem k_WP_same (x y : Int32) (t : Nat) (mir : Bool) (w : ab_W) (n : Nat) {N : Nat → Nat} {R : Nat → Nat → Nat → Int64} {kn ks : Nat} {lf : Int32} (hx : x = nI t) (hy : y = b01 mir) (ht : t < 8) (hN : N t ≠ 0) (h : KC w n kn ks lf N R) : ab_C X l i_WP_same [.ref 0, .int x, .int y] w n 0 0 (qI (nI (cnt (inB (N t) (R t) mir) (N t))) (KCQ w n kn ks lf N R)) := by
  have hh := h
  obtain ⟨⟨h0, hK, hS, g0, h43⟩, hO⟩ := h
  obtain ⟨aa, hA, hM⟩ := hS.is ht hN
  generalize hMe : N t = M at *
  obtain ⟨v7, p7, h17⟩ := hK.obj
  have hO' := hO
  obtain ⟨⟨oa, ob, oc, h20⟩, -⟩ := hO
  obtain ⟨w9, rfl⟩ := va_ex3 h0 h17 h20
  refine ab_mqI cd_128 om_128 rfl (ab_sound ok_128 [] 120 ?_)
  (refine Exists.intro 0 ?_; refine ⟨0, _, Nat.zero_le _, Nat.zero_le _, k_sheetThatIs_y _ t _ _ hx ht (by omega) h0 hS, ?_⟩; refine ab_q1_elim ?_)
  have y0 : ¬ y < 0 := by rw [hy]; cases mir <;> decide
  have y2 : y ≤ nI 2 := by rw [hy]; cases mir <;> decide
  have y3 : y ≠ nI 2 := by rw [hy]; cases mir <;> decide
  refine And.intro (fun h_9 => absurd h_9 (y0)) (fun _ => ?_)
  refine And.intro (fun _ => ?_) (fun h_9 => absurd (y2) h_9)
  refine Exists.intro _ (Exists.intro _ (And.intro (hA.1) (And.intro rfl ?_)))
  (refine Exists.intro 0 ?_; refine ⟨0, _, Nat.zero_le _, Nat.zero_le _, k_choose _ M _ _ rfl hM.2 hM.1 hK, ?_⟩; rintro _ w1 _ ⟨rfl, rfl, e1, e2⟩)
  refine And.intro (fun _ => ?_) (fun h_9 => absurd h_9 (y3))
  have hw0 : w1 0 = oWP kn ks lf := e1.get rfl (by omega)
  have hw20 : w1 20 = oOrb oa ob oc := e1.get rfl (by omega)
  have hO1 : KO w1 := hO'.fr e1 (fun k hk => by omega)
  obtain ⟨G, kd, td, hO2, h22⟩ := hO1.begun M
  have f2 : Fr (fun k => k = 20) w1 (va_up w1 20 (oOrb (nI M) (nI (phi M)) (nI 0))) := Fr.refl.up rfl
  have f12 := e1.tr (H := fun k => k = 17 ∨ k = 18 ∨ k = 20) f2 (fun k hk => by omega) (fun k hk => by omega)
  have hA2 := hA.frS f12 (fun k hk => by unfold FS; omega)
  have hS2 := e2.fr f2 (by omega) (by omega) (by omega)
  have h43b := f12.get h43 (by omega)
  obtain ⟨-, c, f, s1, s2, s3, s4⟩ := id e2
  obtain ⟨w1, rfl⟩ := va_ex3 hw0 s1 hw20
  (refine Exists.intro 0 ?_; refine ⟨0, _, Nat.zero_le _, Nat.zero_le _, c_begin _ _ rfl rfl, ?_⟩; refine ab_q1_elim ?_)
  (refine Exists.intro 0 ?_; refine ⟨0, _, Nat.zero_le _, Nat.zero_le _, k_placeSheet _ _ aa 0 M 0 _ _ rfl (by omega) (by omega) hS2 hA2 hO2 h22 (Dist0 M G), ?_⟩; rintro _ w3 _ ⟨rfl, rfl, f3, h223, K3, G3, kd3, td3, hO3, hP3⟩)
  have f13 := f12.tr (H := FA) f3 (fun k hk => by omega) (fun k hk => by omega)
  have hA3 := hA.frS f13 FA_FS
  have hS3 := hS2.fr f3 (by omega) (by omega) (by omega)
  have h43c := f3.get h43b (by omega)
  have hw03 : w3 0 = oWP kn ks lf := f13.get rfl (by omega)
  have hbd : ∀ j, j < M → Bd (phi M) (R t j) := fun j hj => hA.bd hj
  have hK3 := hP3.2.1
  cases mir with
  | false =>
    obtain ⟨w3, rfl⟩ := va_ex2 hw03 hO3.1
    refine And.intro (fun h_9 => absurd (hy) h_9) (fun _ => ?_)
    (refine Exists.intro 0 ?_; refine ⟨0, _, Nat.zero_le _, Nat.zero_le _, c_turningsOnto _ 0 M _ _ rfl (by omega) hM hO3.1 hO3.2.2.2.2.1 hO3.2.2.2.2.2, ?_⟩; refine ab_q1_elim ?_)
    refine ⟨congrArg (fun q => some (Value.int (nI q))) (cnt_congr _ (fun u hu => ?_)), hh.mk' f13 (Or.inr ⟨M, hS3⟩) (hO3.ko h223) ⟨_, h43c⟩⟩
    refine alB_congr (fun k hk => exB_congr (fun j hj => ?_))
    rw [Nat.zero_add]
    exact slot_tv hM (by omega) hP3.2.2.1 (hP3.at0 j hj) (hP3.at0 k hk) (hbd j hj) hu
  | true =>
    obtain ⟨w3, rfl⟩ := va_ex2 hw03 hO3.1
    refine And.intro (fun _ => ?_) (fun h_9 => absurd h_9 ((by rw [hy]; decide)))
    refine Exists.intro _ (Exists.intro _ (And.intro (hA3.1) (And.intro rfl ?_)))
    (refine Exists.intro 0 ?_; refine ⟨0, _, Nat.zero_le _, Nat.zero_le _, k_placeMirrored _ _ aa M M K3 _ _ rfl (by omega) (by omega) hS3 hA3 hO3 h223 hP3.2.2.1, ?_⟩; rintro _ w4 _ ⟨rfl, rfl, f4, hS4, h224, K4, G4, kd4, td4, hO4, hP4⟩)
    have f14 := f13.tr (H := FA) f4 (fun k hk => by omega) (fun k hk => by omega)
    have hA4 := hA.frS f14 FA_FS
    have h43d := f4.get h43c (by omega)
    have hw04 : w4 0 = oWP kn ks lf := f14.get rfl (by omega)
    have hK4 := hP4.2.1
    obtain ⟨w4, rfl⟩ := va_ex2 hw04 hO4.1
    refine Exists.intro _ (Exists.intro _ (And.intro (hA4.1) (And.intro rfl ?_)))
    (refine Exists.intro 0 ?_; refine ⟨0, _, Nat.zero_le _, Nat.zero_le _, c_turningsOnto _ M M _ _ rfl (by omega) hM hO4.1 hO4.2.2.2.2.1 hO4.2.2.2.2.2, ?_⟩; refine ab_q1_elim ?_)
    refine ⟨congrArg (fun q => some (Value.int (nI q))) (cnt_congr _ (fun u hu => ?_)), hh.mk' f14 (Or.inr ⟨M, hS4⟩) (hO4.ko h224) ⟨_, h43d⟩⟩
    refine alB_congr (fun k hk => exB_congr (fun j hj => ?_))
    rw [slot_tv hM (by omega) hP4.2.2.1 (hP4.old hj (hP3.at0 j hj)) (hP4.2.2.2.2.2 k hk) (hbd j hj) hu]
    exact lk_tm (tm_lk hM.2 hM.1 (mir := true) Lk.refl)
theorem k_WP_again_n (x y : Int32) (w : ab_W) (n : Nat) {N : Nat → Nat} {R : Nat → Nat → Nat → Int64} {kn ks : Nat} {lf : Int32} (hx : badS N x ∨ (y < 0 ∨ nI 2 ≤ y)) (h : KB w n kn ks lf N R) : ab_C X l i_WP_again [.ref 0, .int x, .int y] w n 0 0 (ab_q1 (some (.int (-nI 1))) w n) := by
  obtain ⟨h0, hK, hS, g, h43⟩ := h
  obtain ⟨w, rfl⟩ := va_ex h0
  refine ab_metI cd_132 om_132 rfl (ab_sound ok_132 [] 80 ?_)
  rcases sh_or N x with ⟨t, ht, e, hN⟩ | hb
  · (refine Exists.intro 0 ?_; refine ⟨0, _, Nat.zero_le _, Nat.zero_le _, k_sheetThatIs_y _ t _ _ e ht hN h0 hS, ?_⟩; refine ab_q1_elim ?_)
    have hy : y < 0 ∨ nI 2 ≤ y := by
      rcases hx with hx | hx
      · rcases hx with hx | ⟨u, hu, hx, hz⟩
        · exact absurd e (n_out (by omega) ht hx)
        · rw [e] at hx
          have := (nI_eq (by omega) (by omega)).mp hx
          subst this
          exact absurd hz hN
      · exact hx
    refine And.intro (fun e1 => ?_) (fun e1 => ?_)
    · exact ⟨rfl, rfl, rfl⟩
    · have h3 := hy.resolve_left e1
      refine And.intro (fun h_9 => absurd h_9 ((by rw [i32_le] at h3 ⊢; have q1 := nI_toInt (show 1 < 2 ^ 31 by omega); have q2 := nI_toInt (show 2 < 2 ^ 31 by omega); omega))) (fun _ => ?_)
      exact ⟨rfl, rfl, rfl⟩
  · (refine Exists.intro 0 ?_; refine ⟨0, _, Nat.zero_le _, Nat.zero_le _, k_sheetThatIs_n _ _ _ hb h0 hS, ?_⟩; refine ab_q1_elim ?_)
    exact ⟨rfl, rfl, rfl⟩
theorem k_WP_again0 (x : Int32) (t : Nat) (w : ab_W) (n : Nat) {N : Nat → Nat} {R : Nat → Nat → Nat → Int64} {kn ks : Nat} {lf : Int32} (hx : x = nI t) (ht : t < 8) (hN : N t ≠ 0) (h : KB w n kn ks lf N R) : ab_C X l i_WP_again [.ref 0, .int x, .int (nI 0)] w n 0 0 (ab_q1 (some (.int (nI (fst (roundB (phi (N t)) (R t) (N t)) (N t - 1) 1)))) w n) := by
  obtain ⟨h0, hK, hS, g, h43⟩ := h
  obtain ⟨aa, hA, hM⟩ := hS.is ht hN
  obtain ⟨w, rfl⟩ := va_ex h0
  refine ab_metI cd_132 om_132 rfl (ab_sound ok_132 [] 80 ?_)
  (refine Exists.intro 0 ?_; refine ⟨0, _, Nat.zero_le _, Nat.zero_le _, k_sheetThatIs_y _ t _ _ hx ht hN h0 hS, ?_⟩; refine ab_q1_elim ?_)
  refine And.intro (fun h_9 => absurd h_9 ((by decide))) (fun _ => ?_)
  refine And.intro (fun _ => ?_) (fun h_9 => absurd ((by decide)) h_9)
  refine And.intro (fun h_9 => absurd (rfl) h_9) (fun _ => ?_)
  refine And.intro (⟨_, hA.1⟩) ?_
  (refine Exists.intro 0 ?_; refine ⟨0, _, Nat.zero_le _, Nat.zero_le _, c_Sheet_period _ aa (N t) _ _ hM.2 hM.1 hA, ?_⟩; refine ab_q1_elim ?_)
  exact ⟨rfl, rfl, rfl⟩
theorem k_WP_again1 (x : Int32) (t : Nat) (w : ab_W) (n : Nat) {N : Nat → Nat} {R : Nat → Nat → Nat → Int64} {kn ks : Nat} {lf : Int32} (hx : x = nI t) (ht : t < 8) (hN : N t ≠ 0) (h : KC w n kn ks lf N R) : ab_C X l i_WP_again [.ref 0, .int x, .int (nI 1)] w n 0 0 (qI (nI (dcnt (bgB (N t) (R t) (R t) false) (N t) (N t))) (KCQ w n kn ks lf N R)) := by
  have hh := h
  obtain ⟨⟨h0, hK, hS, g0, h43⟩, hO⟩ := h
  obtain ⟨aa, hA, hM⟩ := hS.is ht hN
  generalize hMe : N t = M at *
  obtain ⟨v7, p7, h17⟩ := hK.obj
  have hO' := hO
  obtain ⟨⟨oa, ob, oc, h20⟩, -⟩ := hO
  obtain ⟨w9, rfl⟩ := va_ex3 h0 h17 h20
  refine ab_mqI cd_132 om_132 rfl (ab_sound ok_132 [] 120 ?_)
  (refine Exists.intro 0 ?_; refine ⟨0, _, Nat.zero_le _, Nat.zero_le _, k_sheetThatIs_y _ t _ _ hx ht (by omega) h0 hS, ?_⟩; refine ab_q1_elim ?_)
  refine And.intro (fun h_9 => absurd h_9 ((by decide))) (fun _ => ?_)
  refine And.intro (fun _ => ?_) (fun h_9 => absurd ((by decide)) h_9)
  refine And.intro (fun _ => ?_) (fun h_9 => absurd h_9 ((by decide)))
  refine Exists.intro _ (Exists.intro _ (And.intro (hA.1) (And.intro rfl ?_)))
  (refine Exists.intro 0 ?_; refine ⟨0, _, Nat.zero_le _, Nat.zero_le _, k_choose _ M _ _ rfl hM.2 hM.1 hK, ?_⟩; rintro _ w1 _ ⟨rfl, rfl, e1, e2⟩)
  have hw0 : w1 0 = oWP kn ks lf := e1.get rfl (by omega)
  have hw20 : w1 20 = oOrb oa ob oc := e1.get rfl (by omega)
  have hO1 : KO w1 := hO'.fr e1 (fun k hk => by omega)
  obtain ⟨G, kd, td, hO2, h22⟩ := hO1.begun M
  have f2 : Fr (fun k => k = 20) w1 (va_up w1 20 (oOrb (nI M) (nI (phi M)) (nI 0))) := Fr.refl.up rfl
  have f12 := e1.tr (H := fun k => k = 17 ∨ k = 18 ∨ k = 20) f2 (fun k hk => by omega) (fun k hk => by omega)
  have hA2 := hA.frS f12 (fun k hk => by unfold FS; omega)
  have hS2 := e2.fr f2 (by omega) (by omega) (by omega)
  have h43b := f12.get h43 (by omega)
  obtain ⟨-, c, f, s1, s2, s3, s4⟩ := id e2
  obtain ⟨w1, rfl⟩ := va_ex3 hw0 s1 hw20
  (refine Exists.intro 0 ?_; refine ⟨0, _, Nat.zero_le _, Nat.zero_le _, c_begin _ _ rfl rfl, ?_⟩; refine ab_q1_elim ?_)
  (refine Exists.intro 0 ?_; refine ⟨0, _, Nat.zero_le _, Nat.zero_le _, k_placeSheet _ _ aa 0 M 0 _ _ rfl (by omega) (by omega) hS2 hA2 hO2 h22 (Dist0 M G), ?_⟩; rintro _ w3 _ ⟨rfl, rfl, f3, h223, K3, G3, kd3, td3, hO3, hP3⟩)
  have f13 := f12.tr (H := FA) f3 (fun k hk => by omega) (fun k hk => by omega)
  have hS3 := hS2.fr f3 (by omega) (by omega) (by omega)
  have h43c := f3.get h43b (by omega)
  have hw03 : w3 0 = oWP kn ks lf := f13.get rfl (by omega)
  have hbd : ∀ j, j < M → Bd (phi M) (R t j) := fun j hj => hA.bd hj
  have hK3 := hP3.2.1
  obtain ⟨w3, rfl⟩ := va_ex2 hw03 hO3.1
  (refine Exists.intro 0 ?_; refine ⟨0, _, Nat.zero_le _, Nat.zero_le _, c_selves M _ _ hM hO3.1 hO3.2.2.2.2.1 hO3.2.2.2.2.2, ?_⟩; refine ab_q1_elim ?_)
  refine ⟨congrArg (fun q => some (Value.int (nI q))) (dcnt_congr _ (fun u hu => cnt_congr _ (fun m hm => ?_))), hh.mk' f13 (Or.inr ⟨M, hS3⟩) (hO3.ko h223) ⟨_, h43c⟩⟩
  refine alB_congr (fun k hk => ?_)
  have hlt : (k + m) % M < M := Nat.mod_lt _ (by omega)
  rw [Nat.zero_add]
  exact slot_tv hM (by omega) hP3.2.2.1 (hP3.at0 k hk) (hP3.at0 _ hlt) (hbd k hk) hu
theorem k_WP_one_n (x y : Int32) (w : ab_W) (n : Nat) {N : Nat → Nat} {R : Nat → Nat → Nat → Int64} {kn ks : Nat} {lf : Int32} (h : KB w n kn ks lf N R) (hb : badS N x ∨ badS N y ∨ ∃ u v, u < 8 ∧ v < 8 ∧ x = nI u ∧ y = nI v ∧ N u ≠ 0 ∧ N v ≠ 0 ∧ N u ≠ N v) :
    ab_C X l i_WP_one [.ref 0, .int x, .int y] w n 0 0 (ab_q1 (some (.int (-nI 2))) w n) := by
  obtain ⟨h0, hK, hS, g, h43⟩ := h
  obtain ⟨w, rfl⟩ := va_ex h0
  refine ab_metI cd_131 om_131 rfl (ab_sound ok_131 [] 80 ?_)
  rcases sh_or N x with ⟨u, hu, eu, hNu⟩ | hbx
  · (refine Exists.intro 0 ?_; refine ⟨0, _, Nat.zero_le _, Nat.zero_le _, k_sheetThatIs_y _ u _ _ eu hu hNu h0 hS, ?_⟩; refine ab_q1_elim ?_)
    rcases sh_or N y with ⟨v, hv, ev, hNv⟩ | hby
    · (refine Exists.intro 0 ?_; refine ⟨0, _, Nat.zero_le _, Nat.zero_le _, k_sheetThatIs_y _ v _ _ ev hv hNv h0 hS, ?_⟩; refine ab_q1_elim ?_)
      obtain ⟨a1, hA1, hM1⟩ := hS.is hu hNu
      obtain ⟨a2, hA2, hM2⟩ := hS.is hv hNv
      have hne : N u ≠ N v := by
        have nb : ∀ (x : Int32) (u : Nat), u < 8 → x = nI u → N u ≠ 0 → ¬ badS N x := by
          intro x u hu eu hNu hb
          rcases hb with hb | ⟨u2, hu2, e2, hz⟩
          · exact absurd eu (n_out (by omega) hu hb)
          · rw [eu] at e2
            have := (nI_eq (by omega) (by omega)).mp e2
            subst this
            exact absurd hz hNu
        rcases hb with hb | hb | ⟨u2, v2, hu2, hv2, eu2, ev2, -, -, hne⟩
        · exact absurd hb (nb x u hu eu hNu)
        · exact absurd hb (nb y v hv ev hNv)
        · rw [eu] at eu2
          rw [ev] at ev2
          have q1 := (nI_eq (by omega) (by omega)).mp eu2
          have q2 := (nI_eq (by omega) (by omega)).mp ev2
          subst q1 q2
          exact hne
      refine Exists.intro _ (Exists.intro _ (And.intro (hA1.1) (And.intro rfl ?_)))
      refine Exists.intro _ (Exists.intro _ (And.intro (hA2.1) (And.intro rfl ?_)))
      refine And.intro (fun h_9 => absurd h_9 ((fun z => hne ((nI_eq (by omega) (by omega)).mp z)))) (fun _ => ?_)
      exact ⟨rfl, rfl, rfl⟩
    · (refine Exists.intro 0 ?_; refine ⟨0, _, Nat.zero_le _, Nat.zero_le _, k_sheetThatIs_n _ _ _ hby h0 hS, ?_⟩; refine ab_q1_elim ?_)
      exact ⟨rfl, rfl, rfl⟩
  · (refine Exists.intro 0 ?_; refine ⟨0, _, Nat.zero_le _, Nat.zero_le _, k_sheetThatIs_n _ _ _ hbx h0 hS, ?_⟩; refine ab_q1_elim ?_)
    rcases sh_or N y with ⟨v, hv, ev, hNv⟩ | hby
    · (refine Exists.intro 0 ?_; refine ⟨0, _, Nat.zero_le _, Nat.zero_le _, k_sheetThatIs_y _ v _ _ ev hv hNv h0 hS, ?_⟩; refine ab_q1_elim ?_)
      exact ⟨rfl, rfl, rfl⟩
    · (refine Exists.intro 0 ?_; refine ⟨0, _, Nat.zero_le _, Nat.zero_le _, k_sheetThatIs_n _ _ _ hby h0 hS, ?_⟩; refine ab_q1_elim ?_)
      exact ⟨rfl, rfl, rfl⟩
theorem Dist.le {N K K' : Nat} {G : Nat → Int64} (h : Dist N K' G) (hk : K ≤ K') : Dist N K G := fun c d hc hd => h c d (by omega) (by omega)
theorem k_WP_one (x y : Int32) (u v : Nat) (w : ab_W) (n : Nat) {N : Nat → Nat} {R : Nat → Nat → Nat → Int64} {kn ks : Nat} {lf : Int32} (hx : x = nI u) (hy : y = nI v) (hu : u < 8) (hv : v < 8) (hN0 : N u ≠ 0) (hNv : N v = N u) (h : KC w n kn ks lf N R) : ab_C X l i_WP_one [.ref 0, .int x, .int y] w n 0 0 (qI (oneV (N u) (R v) (R u)) (KCQ w n kn ks lf N R)) := by
  have hh := h
  obtain ⟨⟨h0, hK, hS, g0, h43⟩, hO⟩ := h
  obtain ⟨a1, hA, hM⟩ := hS.is hu hN0
  obtain ⟨a2, hB, -⟩ := hS.is hv (by omega)
  rw [hNv] at hB
  generalize hMe : N u = M at *
  obtain ⟨v7, p7, h17⟩ := hK.obj
  have hO' := hO
  obtain ⟨⟨oa, ob, oc, h20⟩, -⟩ := hO
  obtain ⟨w9, rfl⟩ := va_ex3 h0 h17 h20
  refine ab_mqI cd_131 om_131 rfl (ab_sound ok_131 [125] 150 ?_)
  (refine Exists.intro 0 ?_; refine ⟨0, _, Nat.zero_le _, Nat.zero_le _, k_sheetThatIs_y _ u _ _ hx hu (by omega) h0 hS, ?_⟩; refine ab_q1_elim ?_)
  (refine Exists.intro 0 ?_; refine ⟨0, _, Nat.zero_le _, Nat.zero_le _, k_sheetThatIs_y _ v _ _ hy hv (by omega) h0 hS, ?_⟩; refine ab_q1_elim ?_)
  refine Exists.intro _ (Exists.intro _ (And.intro (hA.1) (And.intro rfl ?_)))
  refine Exists.intro _ (Exists.intro _ (And.intro (hB.1) (And.intro rfl ?_)))
  refine And.intro (fun _ => ?_) (fun h_9 => absurd (rfl) h_9)
  refine Exists.intro _ (Exists.intro _ (And.intro (hA.1) (And.intro rfl ?_)))
  (refine Exists.intro 0 ?_; refine ⟨0, _, Nat.zero_le _, Nat.zero_le _, k_choose _ M _ _ rfl hM.2 hM.1 hK, ?_⟩; rintro _ w1 _ ⟨rfl, rfl, e1, e2⟩)
  have hw0 : w1 0 = oWP kn ks lf := e1.get rfl (by omega)
  have hw20 : w1 20 = oOrb oa ob oc := e1.get rfl (by omega)
  have hO1 : KO w1 := hO'.fr e1 (fun k hk => by omega)
  obtain ⟨G, kd, td, hO2, h22⟩ := hO1.begun M
  have f2 : Fr (fun k => k = 20) w1 (va_up w1 20 (oOrb (nI M) (nI (phi M)) (nI 0))) := Fr.refl.up rfl
  have f12 := e1.tr (H := fun k => k = 17 ∨ k = 18 ∨ k = 20) f2 (fun k hk => by omega) (fun k hk => by omega)
  have hB2 := hB.frS f12 (fun k hk => by unfold FS; omega)
  have hS2 := e2.fr f2 (by omega) (by omega) (by omega)
  have h43b := f12.get h43 (by omega)
  obtain ⟨-, c, f, s1, s2, s3, s4⟩ := id e2
  obtain ⟨w1, rfl⟩ := va_ex3 hw0 s1 hw20
  (refine Exists.intro 0 ?_; refine ⟨0, _, Nat.zero_le _, Nat.zero_le _, c_begin _ _ rfl rfl, ?_⟩; refine ab_q1_elim ?_)
  (refine Exists.intro 0 ?_; refine ⟨0, _, Nat.zero_le _, Nat.zero_le _, k_placeSheet _ _ a2 0 M 0 _ _ rfl (by omega) (by omega) hS2 hB2 hO2 h22 (Dist0 M G), ?_⟩; rintro _ w3 _ ⟨rfl, rfl, f3, h223, K3, G3, kd3, td3, hO3, hP3⟩)
  have f13 := f12.tr (H := FA) f3 (fun k hk => by omega) (fun k hk => by omega)
  have hA3 := hA.frS f13 FA_FS
  have hS3 := hS2.fr f3 (by omega) (by omega) (by omega)
  have h43c := f3.get h43b (by omega)
  have hw03 : w3 0 = oWP kn ks lf := f13.get rfl (by omega)
  have hbd : ∀ j, j < M → Bd (phi M) (R v j) := fun j hj => hB.bd hj
  have hK3 := hP3.2.1
  obtain ⟨w3, rfl⟩ := va_ex2 hw03 hO3.1
  refine Exists.intro _ (Exists.intro _ (And.intro (hA3.1) (And.intro rfl ?_)))
  (refine Exists.intro 0 ?_; refine ⟨0, _, Nat.zero_le _, Nat.zero_le _, k_placeSheet _ _ a1 M M K3 _ _ rfl (by omega) (by omega) hS3 hA3 hO3 h223 hP3.2.2.1, ?_⟩; rintro _ w4 _ ⟨rfl, rfl, f4, h224, K4, G4, kd4, td4, hO4, hP4⟩)
  have f14 := f13.tr (H := FA) f4 (fun k hk => by omega) (fun k hk => by omega)
  have hA4 := hA.frS f14 FA_FS
  have hS4 := hS3.fr f4 (by omega) (by omega) (by omega)
  have h43d := f4.get h43c (by omega)
  have hw04 : w4 0 = oWP kn ks lf := f14.get rfl (by omega)
  have hK4 := hP4.2.1
  have hO4' := hO4
  obtain ⟨w4, rfl⟩ := va_ex2 hw04 hO4.1
  (refine Exists.intro 0 ?_; refine ⟨0, _, Nat.zero_le _, Nat.zero_le _, c_firstMatch M _ _ hM hO4.1 hO4.2.2.2.2.1 hO4.2.2.2.2.2, ?_⟩; refine ab_q1_elim ?_)
  have ev1 : fmV M (fun t m => alB (fun k => itB M kd4 td4 k (M + (k + m) % M) (nI t)) M) = fmV M (bgB M (R v) (R u) false) := fmV_congr (fun t m ht hm => alB_congr (fun k hk => by
    have hlt : (k + m) % M < M := Nat.mod_lt _ (by omega)
    exact slot_tv hM (by omega) hP4.2.2.1 (hP4.old hk (hP3.at0 k hk)) (hP4.2.2.2.2.2 _ hlt) (hbd k hk) ht))
  rw [ev1]
  unfold oneV
  refine And.intro (fun hc => ?_) (fun hc => ?_)
  · rw [if_pos hc]
    have snd : ∀ w5, Fr (fun k => k = 20) (va_up (va_up w4 20 (oOrb (nI M) (nI (phi M)) (nI K4))) 0 (oWP kn ks lf)) w5 → w5 20 = oOrb (nI M) (nI (phi M)) (nI K3) → ∀ l6 : Int32, ab_Ev X l i_WP_one 125 [some (.ref 0), some (.int x), some (.int y), some (.ref (74 + 2 * u)), some (.ref (74 + 2 * v)), some (.int (nI K3)), some (.int l6), none] [] w5 n 0 0 (qI (if fmV M (bgB M (R v) (R u) true) = -nI 1 then -nI 1 else nI 10000 + fmV M (bgB M (R v) (R u) true)) (KCQ (va_up (va_up (va_up w9 20 (oOrb oa ob oc)) 17 (oSums v7 p7)) 0 (oWP kn ks lf)) n kn ks lf N R)) := by
      intro w5 f5 h205 l6
      have f15 := f14.tr (H := FA) f5 (fun k hk => by omega) (fun k hk => by omega)
      have hA5 := hA.frS f15 FA_FS
      have hS5 := hS4.fr f5 (by omega) (by omega) (by omega)
      have h225 : ∃ f, w5 22 = aJ 58 f := by
        obtain ⟨f, hf⟩ := h224
        exact ⟨f, f5.get hf (by omega)⟩
      have hO5 : OrbW w5 M K3 G4 kd4 td4 := by
        obtain ⟨q0, q1, ⟨t3, q3⟩, ⟨t4, q4⟩, q5, q6⟩ := hO4'
        exact ⟨h205, f5.get q1 (by omega), ⟨t3, f5.get q3 (by omega)⟩, ⟨t4, f5.get q4 (by omega)⟩, f5.get q5 (by omega), f5.get q6 (by omega)⟩
      have h43e := f5.get h43d (by omega)
      have hw05 : w5 0 = oWP kn ks lf := f5.get rfl (by omega)
      obtain ⟨w5, rfl⟩ := va_ex2 hw05 h205
      refine ab_sound ok_131 [] 150 ?_
      refine Exists.intro _ (Exists.intro _ (And.intro (hA5.1) (And.intro rfl ?_)))
      (refine Exists.intro 0 ?_; refine ⟨0, _, Nat.zero_le _, Nat.zero_le _, k_placeMirrored _ _ a1 M M K3 _ _ rfl (by omega) (by omega) hS5 hA5 hO5 h225 (hP4.2.2.1.le hP4.1), ?_⟩; rintro _ w6 _ ⟨rfl, rfl, f6, hS6, h226, K6, G6, kd6, td6, hO6, hP6⟩)
      have f16 := f15.tr (H := FA) f6 (fun k hk => by omega) (fun k hk => by omega)
      have h43f := f6.get h43e (by omega)
      have hw06 : w6 0 = oWP kn ks lf := f16.get rfl (by omega)
      have hK6 := hP6.2.1
      obtain ⟨w6, rfl⟩ := va_ex2 hw06 hO6.1
      (refine Exists.intro 0 ?_; refine ⟨0, _, Nat.zero_le _, Nat.zero_le _, c_firstMatch M _ _ hM hO6.1 hO6.2.2.2.2.1 hO6.2.2.2.2.2, ?_⟩; refine ab_q1_elim ?_)
      have ev2 : fmV M (fun t m => alB (fun k => itB M kd6 td6 k (M + (k + m) % M) (nI t)) M) = fmV M (bgB M (R v) (R u) true) := fmV_congr (fun t m ht hm => alB_congr (fun k hk => by
        have hlt : (k + m) % M < M := Nat.mod_lt _ (by omega)
        rw [slot_tv hM (by omega) hP6.2.2.1 (hP6.old hk (hP4.old2 hk (hP3.at0 k hk))) (hP6.2.2.2.2.2 _ hlt) (hbd k hk) ht]
        exact lk_tm (tm_lk hM.2 hM.1 (mir := true) Lk.refl)))
      rw [ev2]
      have fin := hh.mk' f16 (Or.inr ⟨M, hS6⟩) (hO6.ko h226) ⟨_, h43f⟩
      refine And.intro (fun hd => ?_) (fun hd => ?_)
      · rw [if_neg hd]
        exact ⟨rfl, fin⟩
      · rw [if_pos hd]
        exact ⟨rfl, fin⟩
    exact ab_ev_of (snd _ (Fr.refl.up rfl) va_us (fmV M (bgB M (R v) (R u) false))) rfl rfl rfl
  · rw [if_neg hc]
    exact ⟨rfl, hh.mk' f14 (Or.inr ⟨M, hS4⟩) (hO4'.ko h224) ⟨_, h43d⟩⟩
end ORBAPI
