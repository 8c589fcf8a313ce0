section API3
variable {X : ab_X} {l : Launch}
theorem c_Tape_byteAt (x : Int32) (i : Nat) (w : ab_W) (n : Nat) {a b c d e f : Int32} {tb : Nat → Int32} (hx : x = nI i) (hi : i < 640) (h1 : w 1 = oTape a b c d e f) (h2 : w 2 = aI 640 tb) : ab_C X l i_Tape_byteAt [.ref 1, .int x] w n 0 0 (ab_q1 (some (.int (tb i))) w n) := by
  subst hx
  obtain ⟨w, rfl⟩ := va_ex2 h1 h2
  refine ab_metI cd_80 om_80 rfl (ab_sound ok_80 [] 50 ?_)
  refine And.intro (fun h_9 => absurd h_9 (nI_pos (by omega))) (fun _ => ?_)
  refine And.intro (fun _ => ?_) (fun h_9 => absurd (nI_lt hi (by omega)) h_9)
  refine And.intro (vp_in_nI hi (by omega)) ?_
  exact ⟨by rw [nI_clamp (by omega)], rfl, rfl⟩
def sgb (b : Int32) : Int32 := if b ≤ nI 127 then b else b - nI 256
theorem c_Tape_signedByte (x : Int32) (i : Nat) (w : ab_W) (n : Nat) {a b c d e f : Int32} {tb : Nat → Int32} (hx : x = nI i) (hi : i < 640) (h1 : w 1 = oTape a b c d e f) (h2 : w 2 = aI 640 tb) : ab_C X l i_Tape_signedByte [.ref 1, .int x] w n 0 0 (ab_q1 (some (.int (sgb (tb i)))) w n) := by
  obtain ⟨w, rfl⟩ := va_ex2 h1 h2
  refine ab_metI cd_89 om_89 rfl (ab_sound ok_89 [] 50 ?_)
  (refine Exists.intro 0 ?_; refine ⟨0, _, Nat.zero_le _, Nat.zero_le _, c_Tape_byteAt _ i _ _ hx hi h1 h2, ?_⟩; refine ab_q1_elim ?_)
  unfold sgb
  refine And.intro (fun h => ?_) (fun h => ?_)
  · rw [if_pos h]
    exact ⟨rfl, rfl, rfl⟩
  · rw [if_neg h]
    exact ⟨rfl, rfl, rfl⟩
theorem c_Mod_signed (b : Int32) (w : ab_W) (n : Nat) : ab_C X l i_Mod_signed [.int b] w n 0 0 (ab_q1 (some (.int (sgb b))) w n) := by
  refine ab_metI cd_208 om_208 rfl (ab_sound ok_208 [] 50 ?_)
  unfold sgb
  refine And.intro (fun h => ?_) (fun h => ?_)
  · rw [if_pos h]
    exact ⟨rfl, rfl, rfl⟩
  · rw [if_neg h]
    exact ⟨rfl, rfl, rfl⟩
/-- what tell() makes of the bytes -/
def tellV (tb : Nat → Int32) (k i : Nat) : Int64 := if i = 0 then (sgb (tb (2 * k))).toInt64 else if i = 1 then (sgb (tb (2 * k + 1))).toInt64 else 0
theorem tell_sm (M : Nat) (tb : Nat → Int32) : Sm M (tellV tb) := by
  intro k i _ _
  unfold tellV
  split
  · simp
  · split
    · simp
    · rfl
theorem KB.w0 {w : ab_W} {n kn ks : Nat} {lf : Int32} {N : Nat → Nat} {R : Nat → Nat → Nat → Int64} (h : KB w n kn ks lf N R) : w 0 = oWP kn ks lf := h.1
theorem k_WP_tell (x : Int32) (t M : Nat) (w : ab_W) (n : Nat) {N : Nat → Nat} {R : Nat → Nat → Nat → Int64} {kn ks : Nat} {lf a b c d e : Int32} {tb : Nat → Int32} (hx : x = nI t) (ht : t < 8) (hM : 3 ≤ M ∧ M ≤ 60) (h : KB w n kn ks lf N R) (h1 : w 1 = oTape (nI (2 * M)) a b c d e) (h2 : w 2 = aI 640 tb) :
    ab_C X l i_WP_tell [.ref 0, .int x] w n 1 3480 (qI (nI M) fun w' n' => n ≤ n' ∧ Fr (fun k => FRS k ∨ k = 1) w w' ∧ w' 1 = oTape (nI 0) a b c d e ∧ KB w' n' kn ks lf (va_up N t M) (va_up R t (tellV tb))) := by
  subst hx
  obtain ⟨h0, hK, hS, g0, h43⟩ := h
  obtain ⟨v7, p7, h17⟩ := hK.obj
  obtain ⟨w9, rfl⟩ := va_ex4 h0 h1 h2 h17
  have hf0 : Fr (fun k => FR k ∨ k = 1) (va_up (va_up (va_up (va_up w9 17 (oSums v7 p7)) 2 (aI 640 tb)) 1 (oTape (nI (2 * M)) a b c d e)) 0 (oWP kn ks lf)) (va_up (va_up (va_up (va_up (va_up w9 17 (oSums v7 p7)) 2 (aI 640 tb)) 1 (oTape (nI (2 * M)) a b c d e)) 0 (oWP kn ks lf)) 1 (oTape (nI 0) a b c d e)) := Fr.refl.up (Or.inr rfl)
  refine ab_mqI cd_121 om_121 rfl (ab_sound ok_121 [57] 80 ?_)
  refine And.intro ((by decide)) ?_
  (refine Exists.intro 0 ?_; refine ⟨0, _, Nat.zero_le _, Nat.zero_le _, c_WP_isSheet_y _ t _ _ rfl ht, ?_⟩; refine ab_q1_elim ?_)
  refine And.intro (fun h_9 => absurd h_9 ((by decide))) (fun _ => ?_)
  refine And.intro ((by decide)) ?_
  rw [pk_rem (by omega) (by omega) (by omega), pk_div (by omega) (by omega) (by omega), show 2 * M % 2 = 0 by omega, show 2 * M / 2 = M by omega]
  refine And.intro (fun h_9 => absurd (rfl) h_9) (fun _ => ?_)
  refine And.intro (fun h_9 => absurd h_9 (nI_nlt hM.1 (by omega))) (fun _ => ?_)
  refine And.intro (fun _ => ?_) (fun h_9 => absurd (nI_le hM.2 (by omega)) h_9)
  (refine Exists.intro 0 ?_; refine ⟨0, _, Nat.zero_le _, Nat.zero_le _, k_choose _ M _ _ rfl hM.2 hM.1 (hK.fr ((Fr.refl (F := fun k => k = 1)).up rfl) (by omega) (by omega) (by omega)), ?_⟩; rintro _ w1 _ ⟨rfl, rfl, e1, e2⟩)
  have loop : ∀ k, k ≤ M → ∀ w1, Fr (fun k => FR k ∨ k = 1) (va_up (va_up (va_up (va_up w9 17 (oSums v7 p7)) 2 (aI 640 tb)) 1 (oTape (nI (2 * M)) a b c d e)) 0 (oWP kn ks lf)) w1 → w1 1 = oTape (nI 0) a b c d e → KSums w1 M → ∀ g, w1 43 = aJ 3480 g → (∀ j i, j < k → i < phi M → g (j * phi M + i) = tellV tb j i) → ab_Ev X l i_WP_tell 57 [some (.ref 0), some (.int (nI t)), some (.int (nI (2 * M))), some (.int (nI M)), some (.int (nI k))] [] w1 n 1 3480 (qI (nI M) fun w' n' => n ≤ n' ∧ Fr (fun k => FRS k ∨ k = 1) (va_up (va_up (va_up (va_up w9 17 (oSums v7 p7)) 2 (aI 640 tb)) 1 (oTape (nI (2 * M)) a b c d e)) 0 (oWP kn ks lf)) w' ∧ w' 1 = oTape (nI 0) a b c d e ∧ KB w' n' kn ks lf (va_up N t M) (va_up R t (tellV tb))) := by
    refine ab_up M ?_ (fun k hk ih => ?_)
    · intro w1 hf hw1 hs g hg hr
      have hKs : KSh w1 n N R := hS.fr hf (fun k hk => ⟨by omega, hk.elim (FR_FS k) (fun z => by unfold FS; omega)⟩) (Nat.le_refl _)
      have hw0 : w1 0 = oWP kn ks lf := hf.get rfl (by omega)
      obtain ⟨-, c, f, s1, s2, s3, s4⟩ := id hs
      obtain ⟨gg, a1, a2⟩ : ∃ g : Nat → Option Nat, w1 40 = .inl (3, 8, .inr (.inr (.inr (.inr g)))) ∧ ∀ t, t < 8 → g t = some (74 + 2 * t) := by
        obtain ⟨b, -, ⟨g, h1, h2⟩, -⟩ := hKs
        exact ⟨g, h1, h2⟩
      have hsh : ∃ v p a, w1 (74 + 2 * t) = oSheet v p a := by
        obtain ⟨b, -, -, -, -, -, h6⟩ := hKs
        obtain ⟨⟨v, p, k1, k2⟩, -⟩ := h6 t (by omega)
        rw [qp_lt ht] at k1
        exact ⟨v, p, _, k1⟩
      obtain ⟨w1, rfl⟩ := va_ex3 hw0 a1 s1
      refine ab_sound ok_121 [57] 80 ?_
      refine And.intro (fun _ => ?_) (fun h_9 => absurd (nI_le (Nat.le_refl _) (by omega)) h_9)
      refine And.intro (vp_in_nI ht (by omega)) ?_
      intro z hz
      rw [nI_clamp (by omega), a2 t ht] at hz
      subst hz
      obtain ⟨v0, p0, a0, k1⟩ := hsh
      refine And.intro (⟨_, k1⟩) ?_
      have kf := k_fill (X := X) (l := l) (nI M) (nI (phi M)) t M _ n (by omega) rfl rfl hM hKs hg hr (tell_sm M tb)
      rw [qp_lt ht] at kf
      (refine Exists.intro 1 ?_; refine ⟨3480, _, by omega, by omega, kf, ?_⟩; rintro _ w2 n2 ⟨rfl, b1, b2, b3, -⟩)
      have hs2 := hs.fr b2 (by unfold FS; omega) (by unfold FS; omega) (by unfold FS; omega)
      exact ⟨rfl, b1, (hf.mono (fun k hk => by unfold FRS; omega)).trans (b2.mono (fun k hk => Or.inl (Or.inr hk))), b2.get hw1 (by unfold FS; omega), b2.get hw0 (by unfold FS; omega), Or.inr ⟨M, hs2⟩, b3, g, b2.get hg (by unfold FS; omega)⟩
    · intro w1 hf hw1 hs g hg hr
      have hw0 : w1 0 = oWP kn ks lf := hf.get rfl (by omega)
      have hw2 : w1 2 = aI 640 tb := hf.get rfl (by omega)
      obtain ⟨-, c, f, s1, s2, s3, s4⟩ := id hs
      have hp1 := phi_ge M hM.2 hM.1
      have hp2 := phi_le M hM.2
      obtain ⟨w1, rfl⟩ := va_ex3 hw0 hw1 s1
      refine ab_sound ok_121 [57] 80 ?_
      refine And.intro (fun h_9 => absurd h_9 (nI_ge hk (by omega))) (fun _ => ?_)
      (refine Exists.intro 0 ?_; refine ⟨0, _, Nat.zero_le _, Nat.zero_le _, c_Sums_clear _ _ s1 s3, ?_⟩; refine ab_q1_elim ?_)
      (refine Exists.intro 0 ?_; refine ⟨0, _, Nat.zero_le _, Nat.zero_le _, c_Tape_signedByte _ (2 * k) _ _ (pk_mul 2 k) (by omega) rfl ((va_un (by omega)).trans hw2), ?_⟩; refine ab_q1_elim ?_)
      (refine Exists.intro 0 ?_; refine ⟨0, _, Nat.zero_le _, Nat.zero_le _, c_Sums_add _ 0 _ _ _ rfl (by omega) s1 va_us, ?_⟩; refine ab_q1_elim ?_)
      (refine Exists.intro 0 ?_; refine ⟨0, _, Nat.zero_le _, Nat.zero_le _, c_Tape_signedByte _ (2 * k + 1) _ _ (by rw [← nI_add, ← pk_mul]) (by omega) rfl ((va_un (by omega)).trans ((va_un (by omega)).trans hw2)), ?_⟩; refine ab_q1_elim ?_)
      (refine Exists.intro 0 ?_; refine ⟨0, _, Nat.zero_le _, Nat.zero_le _, c_Sums_add _ 1 _ _ _ rfl (by omega) s1 va_us, ?_⟩; refine ab_q1_elim ?_)
      (refine Exists.intro 0 ?_; refine ⟨0, _, Nat.zero_le _, Nat.zero_le _, c_Sums_store_43 k (phi M) 3480 _ _ (by omega) (by omega) (kp_le hM hk) (by omega) s1 va_us (((va_un (by omega)).trans ((va_un (by omega)).trans (va_un (by omega)))).trans hg), ?_⟩; refine ab_q1_elim ?_)
      refine ab_ev_of (ih _ ((((hf.up (by omega)).up (by omega)).up (by omega)).up (by omega)) rfl ?_ _ va_us (st_rows hM hk hr ?_)) (by rw [nI_s k]; rfl) rfl rfl
      · exact ((hs.set).set.set).fr ((Fr.refl (F := fun k => k = 43)).up rfl) (by omega) (by omega) (by omega)
      · intro i hi
        have hz : ∀ j, j < 60 → zb 60 f j = 0 := fun j hj => by unfold zb; rw [if_pos hj]
        unfold tellV
        by_cases e0 : i = 0
        · subst e0
          rw [pk_uLn (by omega), pk_uLs, hz 0 (by omega), if_pos rfl, Int64.zero_add]
        · rw [if_neg e0]
          by_cases e1 : i = 1
          · subst e1
            rw [pk_uLs, pk_uLn (by omega), hz 1 (by omega), if_pos rfl, Int64.zero_add]
          · rw [if_neg e1, pk_uLn e1, pk_uLn e0, hz i (by omega)]
  exact ab_ev_of (loop 0 (by omega) w1 (hf0.trans (e1.mono (fun k hk => by omega))) (e1.get rfl (by omega)) e2 g0 (e1.get ((va_un (by omega)).trans h43) (by omega)) (fun j i hj => by omega)) rfl rfl rfl
theorem k_WP_tell_n (x : Int32) (L : Nat) (w : ab_W) (n : Nat) {N : Nat → Nat} {R : Nat → Nat → Nat → Int64} {kn ks : Nat} {lf a b c d e : Int32} (hL : L ≤ 640) (h : KB w n kn ks lf N R) (h1 : w 1 = oTape (nI L) a b c d e) (hb : (x < 0 ∨ nI 8 ≤ x) ∨ L % 2 ≠ 0 ∨ L / 2 < 3 ∨ 60 < L / 2) :
    ab_C X l i_WP_tell [.ref 0, .int x] w n 0 0 (ab_q1 (some (.int (-nI 1))) (va_up w 1 (oTape (nI 0) a b c d e)) n) := by
  obtain ⟨h0, hK, hS, g0, h43⟩ := h
  obtain ⟨w9, rfl⟩ := va_ex2 h0 h1
  refine ab_metI cd_121 om_121 rfl (ab_sound ok_121 [57] 80 ?_)
  refine And.intro ((by decide)) ?_
  rcases in_or 8 (by omega) x with ⟨t, ht, hx⟩ | hx
  · (refine Exists.intro 0 ?_; refine ⟨0, _, Nat.zero_le _, Nat.zero_le _, c_WP_isSheet_y _ t _ _ hx ht, ?_⟩; refine ab_q1_elim ?_)
    refine And.intro (fun h_9 => absurd h_9 ((by decide))) (fun _ => ?_)
    refine And.intro ((by decide)) ?_
    rw [pk_rem (by omega) (by omega) (by omega), pk_div (by omega) (by omega) (by omega)]
    rcases hb with hb | hb
    · exact absurd hx (n_out (by omega) ht hb)
    · by_cases e1 : L % 2 = 0
      · refine And.intro (fun h_9 => absurd ((by rw [e1]; rfl)) h_9) (fun _ => ?_)
        refine And.intro (fun e2 => ?_) (fun e2 => ?_)
        · exact ⟨rfl, rfl, rfl⟩
        · refine And.intro (fun h_9 => absurd h_9 ((fun z => by rw [nI_leI (by omega) (by omega)] at z; rw [nI_ltI (by omega) (by omega)] at e2; omega))) (fun _ => ?_)
          exact ⟨rfl, rfl, rfl⟩
      · refine And.intro (fun _ => ?_) (fun h_9 => absurd h_9 (nI_ne0 (by omega) (by omega)))
        exact ⟨rfl, rfl, rfl⟩
  · (refine Exists.intro 0 ?_; refine ⟨0, _, Nat.zero_le _, Nat.zero_le _, c_WP_isSheet_n _ _ _ hx, ?_⟩; refine ab_q1_elim ?_)
    refine And.intro (fun _ => ?_) (fun h_9 => absurd (rfl) h_9)
    exact ⟨rfl, rfl, rfl⟩
/-- area: the sums, step by step -/
def arF (N : Nat) (R : Nat → Nat → Int64) : Nat → (Nat → Int64) → (Nat → Int64)
  | 0, f => f
  | k + 1, f => gpF (fun i j => (j + N - i) % N) (fun i j => -lN 1 * R ((k + 1) % N) i * R k j) (phi N) (phi N) (gpF (fun i j => (j + N - i) % N) (fun i j => lN 1 * R k i * R ((k + 1) % N) j) (phi N) (phi N) (arF N R k f))
def ArV (N : Nat) (R : Nat → Nat → Int64) (i : Nat) : Int64 := redV N (arF N R N Z0) i
theorem e60_ar {N : Nat} (hN : 3 ≤ N ∧ N ≤ 60) (R : Nat → Nat → Int64) {f g : Nat → Int64} (h : E60 f g) : ∀ k, E60 (arF N R k f) (arF N R k g)
  | 0 => h
  | k + 1 => by
    unfold arF
    have hlt : ∀ i j, i < phi N → j < phi N → (j + N - i) % N < 60 := fun i j _ _ => Nat.lt_of_lt_of_le (Nat.mod_lt _ (by omega)) hN.2
    exact e60_gp (e60_gp (e60_ar hN R h k) _ _ (fun i j hi hj => ⟨hlt i j hi hj, rfl, rfl⟩)) _ _ (fun i j hi hj => ⟨hlt i j hi hj, rfl, rfl⟩)
theorem k_WP_area (x y : Int32) (t i : Nat) (w : ab_W) (n : Nat) {mc ms : Nat} {N : Nat → Nat} {R : Nat → Nat → Nat → Int64} {kn ks : Nat} {lf : Int32} (hx : x = nI t) (hy : y = nI i) (ht : t < 8) (hN : N t ≠ 0) (hi : i < phi (N t)) (h : KB w n kn ks lf N R) :
    ab_Ev X l i_WP_area 0 (ab_en (ab_mx i_WP_area) [.ref 0, .int x, .int y]) [] w n mc ms (qL (ArV (N t) (R t) i) (KQ w n kn ks lf N R)) := by
  subst hx hy
  obtain ⟨h0, hK, hS, g0, h43⟩ := h
  obtain ⟨aa, hA, hM⟩ := hS.is ht hN
  generalize hMe : N t = M at *
  have hp := phi_le _ hM.2
  have hp1 := phi_ge M hM.2 hM.1
  have hp2 := phi_lt M hM.2 hM.1
  obtain ⟨v7, p7, h17⟩ := hK.obj
  obtain ⟨w9, rfl⟩ := va_ex2 h0 h17
  refine ab_sound ok_146 [53] 80 ?_
  (refine Exists.intro 0 ?_; refine ⟨0, _, Nat.zero_le _, Nat.zero_le _, k_sheetThatIs_y _ t _ _ rfl ht (by omega) h0 hS, ?_⟩; refine ab_q1_elim ?_)
  refine And.intro (fun h_9 => absurd h_9 (nI_pos (by omega))) (fun _ => ?_)
  refine Exists.intro _ (Exists.intro _ (And.intro (hA.1) (And.intro rfl ?_)))
  refine And.intro (fun _ => ?_) (fun h_9 => absurd (nI_lt hi (by omega)) h_9)
  refine Exists.intro _ (Exists.intro _ (And.intro (hA.1) (And.intro rfl ?_)))
  (refine Exists.intro 0 ?_; refine ⟨0, _, Nat.zero_le _, Nat.zero_le _, k_choose _ M _ _ rfl hM.2 hM.1 hK, ?_⟩; rintro _ w1 _ ⟨rfl, rfl, e1, e2⟩)
  have hw0 : w1 0 = oWP kn ks lf := e1.get rfl (by omega)
  obtain ⟨-, c, f, s1, s2, s3, s4⟩ := id e2
  obtain ⟨w1, rfl⟩ := va_ex3 hw0 s1 s2
  have hfr : ∀ G, Fr FR (va_up (va_up w9 17 (oSums v7 p7)) 0 (oWP kn ks lf)) (va_up (va_up (va_up (va_up w1 18 (aJ 59 c)) 17 (oSums (nI M) (nI (phi M)))) 0 (oWP kn ks lf)) 19 (aJ 60 G)) := fun G => (e1.mono (fun k hk => by omega)).up (by omega)
  have hAG : ∀ G, ShIs (va_up (va_up (va_up (va_up w1 18 (aJ 59 c)) 17 (oSums (nI M) (nI (phi M)))) 0 (oWP kn ks lf)) 19 (aJ 60 G)) (74 + 2 * t) M aa (R t) := fun G => hA.frS (hfr G) FR_FS
  (refine Exists.intro 0 ?_; refine ⟨0, _, Nat.zero_le _, Nat.zero_le _, c_Sums_clear _ _ s1 s3, ?_⟩; refine ab_q1_elim ?_)
  have loop : ∀ k, k ≤ M → ∀ l5 : Option Value, ab_Ev X l i_WP_area 53 [some (.ref 0), some (.int (nI t)), some (.int (nI i)), some (.ref (74 + 2 * t)), some (.int (nI k)), l5] [] (va_up (va_up (va_up (va_up w1 18 (aJ 59 c)) 17 (oSums (nI M) (nI (phi M)))) 0 (oWP kn ks lf)) 19 (aJ 60 (arF M (R t) k (zb 60 f)))) n mc ms (qL (ArV M (R t) i) (KQ (va_up (va_up w9 17 (oSums v7 p7)) 0 (oWP kn ks lf)) n kn ks lf N R)) := by
    refine ab_up M ?_ (fun k hk ih => ?_)
    · intro l5
      refine ab_sound ok_146 [53] 80 ?_
      refine Exists.intro _ (Exists.intro _ (And.intro ((hAG _).1) (And.intro rfl ?_)))
      refine And.intro (fun _ => ?_) (fun h_9 => absurd (nI_le (Nat.le_refl _) (by omega)) h_9)
      (refine Exists.intro 0 ?_; refine ⟨0, _, Nat.zero_le _, Nat.zero_le _, c_Sums_reduce M (phi M) _ _ (by omega) (by omega) hM.2 hp rfl rfl va_us, ?_⟩; refine ab_q1_elim ?_)
      refine And.intro (vp_in_nI (by omega) (by omega)) ?_
      rw [va_uu]
      refine ⟨?_, Nat.le_refl _, (hfr _).mono (fun k hk => Or.inl hk), rfl, Or.inr ⟨M, hM, c, _, rfl, rfl, va_us, s4⟩, hS.fr (hfr _) (fun k hk => ⟨by omega, FR_FS k hk⟩) (Nat.le_refl _), g0, (va_un (by omega)).trans (e1.get h43 (by omega))⟩
      rw [nI_clamp (by omega), red_allc M hM.2 hM.1 s4 i hi]
      unfold ArV
      rw [e60_red hM.2 (e60_ar hM (R t) (e60_zb f) M) i]
    · intro l5
      refine ab_sound ok_146 [53] 80 ?_
      refine Exists.intro _ (Exists.intro _ (And.intro ((hAG _).1) (And.intro rfl ?_)))
      refine And.intro (fun h_9 => absurd h_9 (nI_ge hk (by omega))) (fun _ => ?_)
      refine Exists.intro _ (Exists.intro _ (And.intro ((hAG _).1) (And.intro rfl ?_)))
      (refine Exists.intro 0 ?_; refine ⟨0, _, Nat.zero_le _, Nat.zero_le _, c_WP_wrap _ M (by omega) (by omega) _ _, ?_⟩; refine ab_q1_elim ?_)
      rw [show md (nI k + nI 1).toInt M = (k + 1) % M by rw [nI_add, nI_toInt (by omega), md_nat]]
      have hlt : (k + 1) % M < M := Nat.mod_lt _ (by omega)
      (refine Exists.intro 0 ?_; refine ⟨0, _, Nat.zero_le _, Nat.zero_le _, c_Sums_addMirroredProduct _ _ _ _ aa M k ((k + 1) % M) _ _ rfl rfl hM.2 hM.1 hk hlt (hAG _) rfl va_us, ?_⟩; refine ab_q1_elim ?_)
      rw [va_uu]
      (refine Exists.intro 0 ?_; refine ⟨0, _, Nat.zero_le _, Nat.zero_le _, c_Sums_addMirroredProduct _ _ _ _ aa M ((k + 1) % M) k _ _ rfl rfl hM.2 hM.1 hlt hk (hAG _) rfl va_us, ?_⟩; refine ab_q1_elim ?_)
      rw [va_uu]
      exact ab_ev_of (ih (some (.int (nI ((k + 1) % M))))) (by rw [nI_s k]; rfl) rfl rfl
  exact ab_ev_of (loop 0 (by omega) none) rfl rfl rfl
theorem k_WP_area_n (x y : Int32) (w : ab_W) (n : Nat) {N : Nat → Nat} {R : Nat → Nat → Nat → Int64} {kn ks : Nat} {lf : Int32} (hx : badS N x ∨ ∃ t, t < 8 ∧ x = nI t ∧ N t ≠ 0 ∧ (y < 0 ∨ nI (phi (N t)) ≤ y)) (h : KB w n kn ks lf N R) :
    ab_Ev X l i_WP_area 0 (ab_en (ab_mx i_WP_area) [.ref 0, .int x, .int y]) [] w n 1 6 (ab_q1 (some (.retAddr 7777)) w n) := by
  obtain ⟨h0, hK, hS, g, h43⟩ := h
  obtain ⟨w, rfl⟩ := va_ex h0
  refine ab_sound ok_146 [32] 80 ?_
  rcases hx with hx | ⟨t, ht, hx, hN, hc⟩
  · (refine Exists.intro 0 ?_; refine ⟨0, _, Nat.zero_le _, Nat.zero_le _, k_sheetThatIs_n _ _ _ hx h0 hS, ?_⟩; refine ab_q1_elim ?_)
    exact ⟨⟨by omega, by omega⟩, rfl, rfl, rfl⟩
  · obtain ⟨a, hA, hM⟩ := hS.is ht hN
    (refine Exists.intro 0 ?_; refine ⟨0, _, Nat.zero_le _, Nat.zero_le _, k_sheetThatIs_y _ t _ _ hx ht hN h0 hS, ?_⟩; refine ab_q1_elim ?_)
    refine And.intro (fun e => ?_) (fun e => ?_)
    · exact ⟨⟨by omega, by omega⟩, rfl, rfl, rfl⟩
    refine Exists.intro _ (Exists.intro _ (And.intro (hA.1) (And.intro rfl ?_)))
    refine And.intro (fun e3 => ?_) (fun e3 => ?_)
    · rcases hc with hc | hc
      · exact absurd hc e
      · rw [i32_lt] at e3
        rw [i32_le] at hc
        omega
    · exact ⟨⟨by omega, by omega⟩, rfl, rfl, rfl⟩
end API3
