/-! drawnBy() -/
def dbV (P : Nat → Bool) : Nat → Int32
  | 0 => nI 0
  | i + 1 => if P i = true then dbV P i ||| (nI 1 <<< (nI i &&& 31)) else dbV P i
def dnB (M : Nat) (S D : Nat → Nat → Int64) : Bool := exB (fun u => exB (bgB M S D false u) M) M
theorem dbV_t {P : Nat → Bool} {i : Nat} (h : P i = true) : dbV P (i + 1) = dbV P i ||| (nI 1 <<< (nI i &&& 31)) := by
  show (if P i = true then _ else _) = _
  rw [if_pos h]
theorem dbV_f {P : Nat → Bool} {i : Nat} (h : P i = false) : dbV P (i + 1) = dbV P i := by
  show (if P i = true then _ else _) = _
  rw [if_neg (by rw [h]; exact Bool.false_ne_true)]
theorem dn_f {M : Nat} {S D : Nat → Nat → Int64} (h : fmV M (bgB M S D false) = -nI 1) (hM : M ≤ 60) : dnB M S D = false := by
  rw [← Bool.not_eq_true]
  intro z
  obtain ⟨u, hu, hz⟩ := of_decide_eq_true z
  have hlt : fst (fun t => exB (bgB M S D false t) M) M 0 < M := by
    rcases Nat.lt_or_ge (fst (fun t => exB (bgB M S D false t) M) M 0) M with h1 | h1
    · exact h1
    · exfalso
      have := (fst_spec (fun t => exB (bgB M S D false t) M) M 0).1 u (Nat.zero_le _) (by omega)
      exact Bool.noConfusion (hz.symm.trans this)
  unfold fmV at h
  rw [if_pos hlt] at h
  have := (fst_spec (bgB M S D false (fst (fun t => exB (bgB M S D false t) M) M 0)) M 0).2.2.1
  exact nI_nn (by omega) h
theorem dn_t {M : Nat} {S D : Nat → Nat → Int64} (h : ¬ fmV M (bgB M S D false) = -nI 1) : dnB M S D = true := by
  rw [← Bool.not_eq_false]
  intro z
  refine h (fmV_no (fun t ht => ?_))
  rw [← Bool.not_eq_true]
  intro q
  have : dnB M S D = true := exB_t ht q
  rw [z] at this
  exact Bool.noConfusion this
theorem KSh.at8 {w : ab_W} {n M : Nat} {N : Nat → Nat} {R : Nat → Nat → Nat → Int64} {V : Nat → Nat → Int64} (h : KSh w n (va_up N 8 M) (va_up R 8 V)) : KSh w n N R := by
  obtain ⟨a, k0, k1, k2, k3, k4, k5⟩ := h
  have e : ∀ t, t < 8 → va_up N 8 M t = N t := fun t ht => va_un (by omega)
  refine ⟨a, k0, k1, fun t ht => by have := k2 t ht; rw [e t ht] at this; exact this, k3, k4, fun t ht => ?_⟩
  obtain ⟨⟨v, p, q1, q2⟩, ⟨f, q3⟩, q4⟩ := k5 t ht
  refine ⟨⟨v, p, q1, fun z => by have := q2 z; rw [e t z] at this; exact this⟩, ⟨f, q3.imp_right (fun q => ⟨q.1, fun z => by have := q.2 z; rw [e t z] at this; exact this⟩)⟩, fun z hz => ?_⟩
  have := q4 z (by rw [e t z]; exact hz)
  rw [e t z, va_un (by omega)] at this
  exact this
abbrev FU (k : Nat) : Prop := FV k ∨ FA k
theorem FU_kit (k : Nat) (h : FU k) : k ≠ 0 ∧ k ≠ 40 ∧ ¬ (44 ≤ k ∧ k ≤ 73) := by
  rcases h with ((h | h) | h) | h
  · omega
  · unfold FS at h; omega
  · omega
  · omega
section DRAWNBY
variable {X : ab_X} {l : Launch}
theorem k_WP_drawnBy_44 (x : Int32) (t : Nat) (w : ab_W) (n : Nat) {N : Nat → Nat} {R : Nat → Nat → Nat → Int64} {ks : Nat} {lf : Int32} {K : KA} {nr nw np : Nat} (hx : x = nI t) (ht : t < 8) (hN : N t ≠ 0) (h : KC w n 44 ks lf N R) (hK : KK w 44 K nr nw np) :
    ab_C X l i_WP_drawnBy [.ref 0, .int x] w n 1 3480 (qI (dbV (fun p => dnB (N t) (R t) (DrV K p (N t))) np) fun w' n' => n ≤ n' ∧ Fr FU w w' ∧ KC w' n' 44 ks lf N R ∧ KP w') := by
  subst hx
  obtain ⟨hB, hO⟩ := h
  obtain ⟨hC, hA, hP⟩ := hK
  obtain ⟨h0, hK0, hS, g0, h43⟩ := id hB
  obtain ⟨a1, hSh, hM⟩ := hS.is ht hN
  have h8 := hA.1.2
  have hbd : ∀ j, j < N t → Bd (phi (N t)) (R t j) := fun j hj => hSh.bd hj
  generalize hMe : N t = M at *
  obtain ⟨v7, p7, h17⟩ := hK0.obj
  have hO' := hO
  obtain ⟨⟨oa, ob, oc, h20⟩, -⟩ := hO
  obtain ⟨w9, rfl⟩ := va_ex3 h0 h17 h20
  refine ab_mqI cd_139 om_139 rfl (ab_sound ok_139 [61] 150 ?_)
  (refine Exists.intro 0 ?_; refine ⟨0, _, Nat.zero_le _, Nat.zero_le _, k_sheetThatIs_y _ t _ _ rfl ht (by omega) h0 hS, ?_⟩; refine ab_q1_elim ?_)
  refine Exists.intro _ (Exists.intro _ (And.intro (hSh.1) (And.intro rfl ?_)))
  (refine Exists.intro 0 ?_; refine ⟨0, _, Nat.zero_le _, Nat.zero_le _, k_choose _ M _ _ rfl hM.2 hM.1 hK0, ?_⟩; rintro _ w1 _ ⟨rfl, rfl, e1, e2⟩)
  have hw0 : w1 0 = oWP 44 ks lf := e1.get rfl (by omega)
  have hw20 : w1 20 = oOrb oa ob oc := e1.get rfl (by omega)
  have hO1 : KO w1 := hO'.fr e1 (fun k hk => by omega)
  obtain ⟨G, kd, td, hO2, h22⟩ := hO1.begun M
  have f2 : Fr (fun k => k = 20) w1 (va_up w1 20 (oOrb (nI M) (nI (phi M)) (nI 0))) := Fr.refl.up rfl
  have f12 := e1.tr (H := fun k => k = 17 ∨ k = 18 ∨ k = 20) f2 (fun k hk => by omega) (fun k hk => by omega)
  have hB2 := hSh.frS f12 (fun k hk => by unfold FS; omega)
  have hS2 := e2.fr f2 (by omega) (by omega) (by omega)
  have h43b := f12.get h43 (by omega)
  obtain ⟨-, c, f, s1, s2, s3, s4⟩ := id e2
  obtain ⟨w1, rfl⟩ := va_ex3 hw0 s1 hw20
  (refine Exists.intro 0 ?_; refine ⟨0, _, Nat.zero_le _, Nat.zero_le _, c_begin _ _ rfl rfl, ?_⟩; refine ab_q1_elim ?_)
  (refine Exists.intro 0 ?_; refine ⟨0, _, Nat.zero_le _, Nat.zero_le _, k_placeSheet _ _ a1 0 M 0 _ _ rfl (by omega) (by omega) hS2 hB2 hO2 h22 (Dist0 M G), ?_⟩; rintro _ w3 _ ⟨rfl, rfl, f3, h223, K3, G3, kd3, td3, hO3, hP3⟩)
  have f13 := f12.tr (H := FA) f3 (fun k hk => by omega) (fun k hk => by omega)
  have hS3 := hS2.fr f3 (by omega) (by omega) (by omega)
  have h43c := f3.get h43b (by omega)
  have hw03 : w3 0 = oWP 44 ks lf := f13.get rfl (by omega)
  have hKB3 : KB w3 n 44 ks lf N R := ⟨hw03, Or.inr ⟨M, hS3⟩, hS.fr f13 (fun k hk => ⟨by omega, FA_FS k hk⟩) (Nat.le_refl _), _, h43c⟩
  have hKP3 : KP w3 := hP.fr f13 (fun k hk => by omega)
  have hK3 := hP3.2.1
  generalize hQ : (qI (dbV (fun p => dnB M (R t) (DrV K p M)) np) fun w' n' => n ≤ n' ∧ Fr FU (va_up (va_up (va_up w9 20 (oOrb oa ob oc)) 17 (oSums v7 p7)) 0 (oWP 44 ks lf)) w' ∧ KC w' n' 44 ks lf N R ∧ KP w') = Q
  have loop : ∀ i, i ≤ np → ∀ w5 n5 mc ms, Fr FU (va_up (va_up (va_up w9 20 (oOrb oa ob oc)) 17 (oSums v7 p7)) 0 (oWP 44 ks lf)) w5 → n ≤ n5 → KB w5 n5 44 ks lf N R → KP w5 → KSums w5 M → Bud w5 8 mc ms → (∃ f, w5 22 = aJ 58 f) → (∃ K5 G5 kd5 td5, OrbW w5 M K5 G5 kd5 td5 ∧ Dist M K3 G5 ∧ ∀ k, k < M → SltIs M K3 G5 kd5 td5 k (R t k)) → ab_Ev X l i_WP_drawnBy 61 [some (.ref 0), some (.int (nI t)), some (.ref (74 + 2 * t)), some (.int (nI K3)), some (.int (dbV (fun p => dnB M (R t) (DrV K p M)) i)), some (.int (nI i))] [] w5 n5 mc ms Q := by
    refine ab_up np ?_ (fun i hi ih => ?_)
    · intro w5 n5 mc ms hf hn hKB hKP hKS hbu h22 hor
      obtain ⟨K5, G5, kd5, td5, hO5, -, -⟩ := hor
      have hko := hO5.ko h22
      obtain ⟨⟨nm, hk⟩, -⟩ := hC.fr hf (fun k hk => by have := FU_kit k hk; omega)
      have x0 := hKB.1
      obtain ⟨w5, rfl⟩ := va_ex2 x0 hk
      refine ab_sound ok_139 [61] 80 ?_
      refine And.intro (fun _ => ?_) (fun h_9 => absurd (nI_le (Nat.le_refl _) (by omega)) h_9)
      subst hQ
      exact ⟨rfl, hn, hf, ⟨hKB, hko⟩, hKP⟩
    · intro w5 n5 mc ms hf hn hKB hKP hKS hbu h22 hor
      obtain ⟨K5, G5, kd5, td5, hO5, hD5, hsl5⟩ := hor
      have hC5 := hC.fr hf (fun k hk => by have := FU_kit k hk; omega)
      obtain ⟨⟨nm, hk⟩, -⟩ := id hC5
      have x0 := hKB.1
      obtain ⟨-, -, hS5, -⟩ := id hKB
      obtain ⟨a5, hA5, -⟩ := hS5.is ht (by omega)
      rw [hMe] at hA5
      have hd := k_drawInto_44 (X := X) (l := l) (nI i) (nI M) 8 i M w5 n5 rfl rfl hbu (by omega) hM hi hKB ⟨hC5, hA, hKP⟩
      rw [show qp 8 = 41 from rfl] at hd
      obtain ⟨w5, rfl⟩ := va_ex2 x0 hk
      refine ab_sound ok_139 [95] 80 ?_
      refine And.intro (fun h_9 => absurd h_9 (nI_ge hi (by omega))) (fun _ => ?_)
      refine Exists.intro _ (Exists.intro _ (And.intro (hA5.1) (And.intro rfl ?_)))
      (refine Exists.intro mc ?_; refine ⟨ms, _, by omega, by omega, hd, ?_⟩; rintro _ w6 n6 ⟨rfl, b1, b2, b3, b4, b5, b, b6⟩)
      have hKB6 : KB w6 n6 44 ks lf N R := ⟨b3.1, b3.2.1, b3.2.2.1.at8, b3.2.2.2⟩
      have hO6 : OrbW w6 M K5 G5 kd5 td5 := hO5.fr b2 (fun k hk z => by rcases hk with (hk | hk) | hk <;> (try unfold FS at hk) <;> omega)
      have h226 : ∃ f, w6 22 = aJ 58 f := by
        obtain ⟨f, hf⟩ := h22
        exact ⟨f, b2.get hf (fun hk => by rcases hk with (hk | hk) | hk <;> (try unfold FS at hk) <;> omega)⟩
      have ff6 := hf.trans (b2.mono (G := FU) (fun k hk => .inl hk))
      have snd : ∀ w7 mc2 ms2, Fr (fun k => k = 20) w6 w7 → w7 20 = oOrb (nI M) (nI (phi M)) (nI K3) → ab_Ev X l i_WP_drawnBy 95 [some (.ref 0), some (.int (nI t)), some (.ref (74 + 2 * t)), some (.int (nI K3)), some (.int (dbV (fun p => dnB M (R t) (DrV K p M)) i)), some (.int (nI i))] [] w7 n6 mc2 ms2 Q := by
        intro w7 mc2 ms2 f7 h207
        have hS7 := b5.fr f7 (by omega) (by omega) (by omega)
        have hB7 : ShIs w7 41 M b (DrV K i M) := b6.frS f7 (fun k hk => by unfold FS; omega)
        have hKB7 : KB w7 n6 44 ks lf N R := hKB6.fr f7 (fun k hk => ⟨by omega, by omega, by unfold FRS FS; omega⟩) (Nat.le_refl _)
        obtain ⟨-, -, hSh7, -⟩ := id hKB7
        obtain ⟨a7, hA7, -⟩ := hSh7.is ht (by omega)
        rw [hMe] at hA7
        have h227 : ∃ f, w7 22 = aJ 58 f := by
          obtain ⟨f, hf⟩ := h226
          exact ⟨f, f7.get hf (by omega)⟩
        have hO7 : OrbW w7 M K3 G5 kd5 td5 := by
          obtain ⟨q0, q1, ⟨t3, q3⟩, ⟨t4, q4⟩, q5, q6⟩ := hO6
          exact ⟨h207, f7.get q1 (by omega), ⟨t3, f7.get q3 (by omega)⟩, ⟨t4, f7.get q4 (by omega)⟩, f7.get q5 (by omega), f7.get q6 (by omega)⟩
        have x07 := hKB7.1
        obtain ⟨w7, rfl⟩ := va_ex2 x07 h207
        refine ab_sound ok_139 [61] 80 ?_
        refine Exists.intro _ (Exists.intro _ (And.intro (hA7.1) (And.intro rfl ?_)))
        (refine Exists.intro 0 ?_; refine ⟨0, _, Nat.zero_le _, Nat.zero_le _, k_placeSheet _ _ b M M K3 _ _ rfl (by omega) (by omega) hS7 hB7 hO7 h227 hD5, ?_⟩; rintro _ w8 _ ⟨rfl, rfl, f8, h228, K8, G8, kd8, td8, hO8, hP8⟩)
        have hS8 := hS7.fr f8 (by omega) (by omega) (by omega)
        have hB8 : ShIs w8 41 M b (DrV K i M) := hB7.frS f8 (fun k hk => by unfold FS; omega)
        have hKB8 : KB w8 n6 44 ks lf N R := hKB7.fr f8 (fun k hk => ⟨by omega, by omega, by unfold FRS FS; omega⟩) (Nat.le_refl _)
        have hKP8 : KP w8 := (b4.fr f7 (fun k hk => by omega)).fr f8 (fun k hk => by omega)
        have ff8 := (ff6.trans (f7.mono (G := FU) (fun k hk => .inr (by omega)))).trans (f8.mono (G := FU) (fun k hk => .inr (by omega)))
        have x08 := hKB8.1
        have hK8 := hP8.2.1
        have nxt : ∀ i2 : Int32, i2 = dbV (fun p => dnB M (R t) (DrV K p M)) (i + 1) → ab_Ev X l i_WP_drawnBy 61 [some (.ref 0), some (.int (nI t)), some (.ref (74 + 2 * t)), some (.int (nI K3)), some (.int i2), some (.int (nI (i + 1)))] [] w8 n6 mc2 ms2 Q := fun i2 e => by
          subst e
          exact ih w8 n6 mc2 ms2 ff8 (Nat.le_trans hn b1) hKB8 hKP8 hS8 (Or.inr hB8.old) h228 ⟨K8, G8, kd8, td8, hO8, hP8.2.2.1.le hP8.1, fun k hk => hP8.old2 hk (hsl5 k hk)⟩
        obtain ⟨w8, rfl⟩ := va_ex2 x08 hO8.1
        (refine Exists.intro 0 ?_; refine ⟨0, _, Nat.zero_le _, Nat.zero_le _, c_firstMatch M _ _ hM hO8.1 hO8.2.2.2.2.1 hO8.2.2.2.2.2, ?_⟩; refine ab_q1_elim ?_)
        have ev1 : fmV M (fun t m => alB (fun k => itB M kd8 td8 k (M + (k + m) % M) (nI t)) M) = fmV M (bgB M (R t) (DrV K i M) false) := fmV_congr (fun t2 m ht2 hm => alB_congr (fun k hk => by
          have hlt : (k + m) % M < M := Nat.mod_lt _ (by omega)
          exact slot_tv hM (by omega) hP8.2.2.1 (hP8.old hk (hsl5 k hk)) (hP8.2.2.2.2.2 _ hlt) (hbd k hk) ht2))
        rw [ev1]
        refine And.intro (fun hc => ?_) (fun hc => ?_)
        · exact ab_ev_of (nxt _ (dbV_f (P := fun p => dnB M (R t) (DrV K p M)) (dn_f hc hM.2)).symm) (by rw [nI_s i]; rfl) rfl rfl
        · exact ab_ev_of (nxt _ (dbV_t (P := fun p => dnB M (R t) (DrV K p M)) (dn_t hc)).symm) (by rw [nI_s i]; rfl) rfl rfl
      have x06 := hKB6.1
      obtain ⟨w6, rfl⟩ := va_ex2 x06 hO6.1
      exact ab_ev_of (snd _ _ _ (Fr.refl.up rfl) va_us) rfl rfl rfl
  have hf3 := f13.mono (G := FU) (fun k hk => .inr hk)
  obtain ⟨w3, rfl⟩ := va_ex2 hw03 hO3.1
  exact ab_ev_of (loop 0 (by omega) _ n 1 3480 hf3 (Nat.le_refl _) hKB3 hKP3 hS3 (Or.inl ⟨rfl, rfl⟩) h223 ⟨K3, G3, kd3, td3, hO3, hP3.2.2.1, hP3.at0⟩) rfl rfl rfl
theorem k_WP_drawnBy_59 (x : Int32) (t : Nat) (w : ab_W) (n : Nat) {N : Nat → Nat} {R : Nat → Nat → Nat → Int64} {ks : Nat} {lf : Int32} {K : KA} {nr nw np : Nat} (hx : x = nI t) (ht : t < 8) (hN : N t ≠ 0) (h : KC w n 59 ks lf N R) (hK : KK w 59 K nr nw np) :
    ab_C X l i_WP_drawnBy [.ref 0, .int x] w n 1 3480 (qI (dbV (fun p => dnB (N t) (R t) (DrV K p (N t))) np) fun w' n' => n ≤ n' ∧ Fr FU w w' ∧ KC w' n' 59 ks lf N R ∧ KP w') := by
  subst hx
  obtain ⟨hB, hO⟩ := h
  obtain ⟨hC, hA, hP⟩ := hK
  obtain ⟨h0, hK0, hS, g0, h43⟩ := id hB
  obtain ⟨a1, hSh, hM⟩ := hS.is ht hN
  have h8 := hA.1.2
  have hbd : ∀ j, j < N t → Bd (phi (N t)) (R t j) := fun j hj => hSh.bd hj
  generalize hMe : N t = M at *
  obtain ⟨v7, p7, h17⟩ := hK0.obj
  have hO' := hO
  obtain ⟨⟨oa, ob, oc, h20⟩, -⟩ := hO
  obtain ⟨w9, rfl⟩ := va_ex3 h0 h17 h20
  refine ab_mqI cd_139 om_139 rfl (ab_sound ok_139 [61] 150 ?_)
  (refine Exists.intro 0 ?_; refine ⟨0, _, Nat.zero_le _, Nat.zero_le _, k_sheetThatIs_y _ t _ _ rfl ht (by omega) h0 hS, ?_⟩; refine ab_q1_elim ?_)
  refine Exists.intro _ (Exists.intro _ (And.intro (hSh.1) (And.intro rfl ?_)))
  (refine Exists.intro 0 ?_; refine ⟨0, _, Nat.zero_le _, Nat.zero_le _, k_choose _ M _ _ rfl hM.2 hM.1 hK0, ?_⟩; rintro _ w1 _ ⟨rfl, rfl, e1, e2⟩)
  have hw0 : w1 0 = oWP 59 ks lf := e1.get rfl (by omega)
  have hw20 : w1 20 = oOrb oa ob oc := e1.get rfl (by omega)
  have hO1 : KO w1 := hO'.fr e1 (fun k hk => by omega)
  obtain ⟨G, kd, td, hO2, h22⟩ := hO1.begun M
  have f2 : Fr (fun k => k = 20) w1 (va_up w1 20 (oOrb (nI M) (nI (phi M)) (nI 0))) := Fr.refl.up rfl
  have f12 := e1.tr (H := fun k => k = 17 ∨ k = 18 ∨ k = 20) f2 (fun k hk => by omega) (fun k hk => by omega)
  have hB2 := hSh.frS f12 (fun k hk => by unfold FS; omega)
  have hS2 := e2.fr f2 (by omega) (by omega) (by omega)
  have h43b := f12.get h43 (by omega)
  obtain ⟨-, c, f, s1, s2, s3, s4⟩ := id e2
  obtain ⟨w1, rfl⟩ := va_ex3 hw0 s1 hw20
  (refine Exists.intro 0 ?_; refine ⟨0, _, Nat.zero_le _, Nat.zero_le _, c_begin _ _ rfl rfl, ?_⟩; refine ab_q1_elim ?_)
  (refine Exists.intro 0 ?_; refine ⟨0, _, Nat.zero_le _, Nat.zero_le _, k_placeSheet _ _ a1 0 M 0 _ _ rfl (by omega) (by omega) hS2 hB2 hO2 h22 (Dist0 M G), ?_⟩; rintro _ w3 _ ⟨rfl, rfl, f3, h223, K3, G3, kd3, td3, hO3, hP3⟩)
  have f13 := f12.tr (H := FA) f3 (fun k hk => by omega) (fun k hk => by omega)
  have hS3 := hS2.fr f3 (by omega) (by omega) (by omega)
  have h43c := f3.get h43b (by omega)
  have hw03 : w3 0 = oWP 59 ks lf := f13.get rfl (by omega)
  have hKB3 : KB w3 n 59 ks lf N R := ⟨hw03, Or.inr ⟨M, hS3⟩, hS.fr f13 (fun k hk => ⟨by omega, FA_FS k hk⟩) (Nat.le_refl _), _, h43c⟩
  have hKP3 : KP w3 := hP.fr f13 (fun k hk => by omega)
  have hK3 := hP3.2.1
  generalize hQ : (qI (dbV (fun p => dnB M (R t) (DrV K p M)) np) fun w' n' => n ≤ n' ∧ Fr FU (va_up (va_up (va_up w9 20 (oOrb oa ob oc)) 17 (oSums v7 p7)) 0 (oWP 59 ks lf)) w' ∧ KC w' n' 59 ks lf N R ∧ KP w') = Q
  have loop : ∀ i, i ≤ np → ∀ w5 n5 mc ms, Fr FU (va_up (va_up (va_up w9 20 (oOrb oa ob oc)) 17 (oSums v7 p7)) 0 (oWP 59 ks lf)) w5 → n ≤ n5 → KB w5 n5 59 ks lf N R → KP w5 → KSums w5 M → Bud w5 8 mc ms → (∃ f, w5 22 = aJ 58 f) → (∃ K5 G5 kd5 td5, OrbW w5 M K5 G5 kd5 td5 ∧ Dist M K3 G5 ∧ ∀ k, k < M → SltIs M K3 G5 kd5 td5 k (R t k)) → ab_Ev X l i_WP_drawnBy 61 [some (.ref 0), some (.int (nI t)), some (.ref (74 + 2 * t)), some (.int (nI K3)), some (.int (dbV (fun p => dnB M (R t) (DrV K p M)) i)), some (.int (nI i))] [] w5 n5 mc ms Q := by
    refine ab_up np ?_ (fun i hi ih => ?_)
    · intro w5 n5 mc ms hf hn hKB hKP hKS hbu h22 hor
      obtain ⟨K5, G5, kd5, td5, hO5, -, -⟩ := hor
      have hko := hO5.ko h22
      obtain ⟨⟨nm, hk⟩, -⟩ := hC.fr hf (fun k hk => by have := FU_kit k hk; omega)
      have x0 := hKB.1
      obtain ⟨w5, rfl⟩ := va_ex2 x0 hk
      refine ab_sound ok_139 [61] 80 ?_
      refine And.intro (fun _ => ?_) (fun h_9 => absurd (nI_le (Nat.le_refl _) (by omega)) h_9)
      subst hQ
      exact ⟨rfl, hn, hf, ⟨hKB, hko⟩, hKP⟩
    · intro w5 n5 mc ms hf hn hKB hKP hKS hbu h22 hor
      obtain ⟨K5, G5, kd5, td5, hO5, hD5, hsl5⟩ := hor
      have hC5 := hC.fr hf (fun k hk => by have := FU_kit k hk; omega)
      obtain ⟨⟨nm, hk⟩, -⟩ := id hC5
      have x0 := hKB.1
      obtain ⟨-, -, hS5, -⟩ := id hKB
      obtain ⟨a5, hA5, -⟩ := hS5.is ht (by omega)
      rw [hMe] at hA5
      have hd := k_drawInto_59 (X := X) (l := l) (nI i) (nI M) 8 i M w5 n5 rfl rfl hbu (by omega) hM hi hKB ⟨hC5, hA, hKP⟩
      rw [show qp 8 = 41 from rfl] at hd
      obtain ⟨w5, rfl⟩ := va_ex2 x0 hk
      refine ab_sound ok_139 [95] 80 ?_
      refine And.intro (fun h_9 => absurd h_9 (nI_ge hi (by omega))) (fun _ => ?_)
      refine Exists.intro _ (Exists.intro _ (And.intro (hA5.1) (And.intro rfl ?_)))
      (refine Exists.intro mc ?_; refine ⟨ms, _, by omega, by omega, hd, ?_⟩; rintro _ w6 n6 ⟨rfl, b1, b2, b3, b4, b5, b, b6⟩)
      have hKB6 : KB w6 n6 59 ks lf N R := ⟨b3.1, b3.2.1, b3.2.2.1.at8, b3.2.2.2⟩
      have hO6 : OrbW w6 M K5 G5 kd5 td5 := hO5.fr b2 (fun k hk z => by rcases hk with (hk | hk) | hk <;> (try unfold FS at hk) <;> omega)
      have h226 : ∃ f, w6 22 = aJ 58 f := by
        obtain ⟨f, hf⟩ := h22
        exact ⟨f, b2.get hf (fun hk => by rcases hk with (hk | hk) | hk <;> (try unfold FS at hk) <;> omega)⟩
      have ff6 := hf.trans (b2.mono (G := FU) (fun k hk => .inl hk))
      have snd : ∀ w7 mc2 ms2, Fr (fun k => k = 20) w6 w7 → w7 20 = oOrb (nI M) (nI (phi M)) (nI K3) → ab_Ev X l i_WP_drawnBy 95 [some (.ref 0), some (.int (nI t)), some (.ref (74 + 2 * t)), some (.int (nI K3)), some (.int (dbV (fun p => dnB M (R t) (DrV K p M)) i)), some (.int (nI i))] [] w7 n6 mc2 ms2 Q := by
        intro w7 mc2 ms2 f7 h207
        have hS7 := b5.fr f7 (by omega) (by omega) (by omega)
        have hB7 : ShIs w7 41 M b (DrV K i M) := b6.frS f7 (fun k hk => by unfold FS; omega)
        have hKB7 : KB w7 n6 59 ks lf N R := hKB6.fr f7 (fun k hk => ⟨by omega, by omega, by unfold FRS FS; omega⟩) (Nat.le_refl _)
        obtain ⟨-, -, hSh7, -⟩ := id hKB7
        obtain ⟨a7, hA7, -⟩ := hSh7.is ht (by omega)
        rw [hMe] at hA7
        have h227 : ∃ f, w7 22 = aJ 58 f := by
          obtain ⟨f, hf⟩ := h226
          exact ⟨f, f7.get hf (by omega)⟩
        have hO7 : OrbW w7 M K3 G5 kd5 td5 := by
          obtain ⟨q0, q1, ⟨t3, q3⟩, ⟨t4, q4⟩, q5, q6⟩ := hO6
          exact ⟨h207, f7.get q1 (by omega), ⟨t3, f7.get q3 (by omega)⟩, ⟨t4, f7.get q4 (by omega)⟩, f7.get q5 (by omega), f7.get q6 (by omega)⟩
        have x07 := hKB7.1
        obtain ⟨w7, rfl⟩ := va_ex2 x07 h207
        refine ab_sound ok_139 [61] 80 ?_
        refine Exists.intro _ (Exists.intro _ (And.intro (hA7.1) (And.intro rfl ?_)))
        (refine Exists.intro 0 ?_; refine ⟨0, _, Nat.zero_le _, Nat.zero_le _, k_placeSheet _ _ b M M K3 _ _ rfl (by omega) (by omega) hS7 hB7 hO7 h227 hD5, ?_⟩; rintro _ w8 _ ⟨rfl, rfl, f8, h228, K8, G8, kd8, td8, hO8, hP8⟩)
        have hS8 := hS7.fr f8 (by omega) (by omega) (by omega)
        have hB8 : ShIs w8 41 M b (DrV K i M) := hB7.frS f8 (fun k hk => by unfold FS; omega)
        have hKB8 : KB w8 n6 59 ks lf N R := hKB7.fr f8 (fun k hk => ⟨by omega, by omega, by unfold FRS FS; omega⟩) (Nat.le_refl _)
        have hKP8 : KP w8 := (b4.fr f7 (fun k hk => by omega)).fr f8 (fun k hk => by omega)
        have ff8 := (ff6.trans (f7.mono (G := FU) (fun k hk => .inr (by omega)))).trans (f8.mono (G := FU) (fun k hk => .inr (by omega)))
        have x08 := hKB8.1
        have hK8 := hP8.2.1
        have nxt : ∀ i2 : Int32, i2 = dbV (fun p => dnB M (R t) (DrV K p M)) (i + 1) → ab_Ev X l i_WP_drawnBy 61 [some (.ref 0), some (.int (nI t)), some (.ref (74 + 2 * t)), some (.int (nI K3)), some (.int i2), some (.int (nI (i + 1)))] [] w8 n6 mc2 ms2 Q := fun i2 e => by
          subst e
          exact ih w8 n6 mc2 ms2 ff8 (Nat.le_trans hn b1) hKB8 hKP8 hS8 (Or.inr hB8.old) h228 ⟨K8, G8, kd8, td8, hO8, hP8.2.2.1.le hP8.1, fun k hk => hP8.old2 hk (hsl5 k hk)⟩
        obtain ⟨w8, rfl⟩ := va_ex2 x08 hO8.1
        (refine Exists.intro 0 ?_; refine ⟨0, _, Nat.zero_le _, Nat.zero_le _, c_firstMatch M _ _ hM hO8.1 hO8.2.2.2.2.1 hO8.2.2.2.2.2, ?_⟩; refine ab_q1_elim ?_)
        have ev1 : fmV M (fun t m => alB (fun k => itB M kd8 td8 k (M + (k + m) % M) (nI t)) M) = fmV M (bgB M (R t) (DrV K i M) false) := fmV_congr (fun t2 m ht2 hm => alB_congr (fun k hk => by
          have hlt : (k + m) % M < M := Nat.mod_lt _ (by omega)
          exact slot_tv hM (by omega) hP8.2.2.1 (hP8.old hk (hsl5 k hk)) (hP8.2.2.2.2.2 _ hlt) (hbd k hk) ht2))
        rw [ev1]
        refine And.intro (fun hc => ?_) (fun hc => ?_)
        · exact ab_ev_of (nxt _ (dbV_f (P := fun p => dnB M (R t) (DrV K p M)) (dn_f hc hM.2)).symm) (by rw [nI_s i]; rfl) rfl rfl
        · exact ab_ev_of (nxt _ (dbV_t (P := fun p => dnB M (R t) (DrV K p M)) (dn_t hc)).symm) (by rw [nI_s i]; rfl) rfl rfl
      have x06 := hKB6.1
      obtain ⟨w6, rfl⟩ := va_ex2 x06 hO6.1
      exact ab_ev_of (snd _ _ _ (Fr.refl.up rfl) va_us) rfl rfl rfl
  have hf3 := f13.mono (G := FU) (fun k hk => .inr hk)
  obtain ⟨w3, rfl⟩ := va_ex2 hw03 hO3.1
  exact ab_ev_of (loop 0 (by omega) _ n 1 3480 hf3 (Nat.le_refl _) hKB3 hKP3 hS3 (Or.inl ⟨rfl, rfl⟩) h223 ⟨K3, G3, kd3, td3, hO3, hP3.2.2.1, hP3.at0⟩) rfl rfl rfl
end DRAWNBY
