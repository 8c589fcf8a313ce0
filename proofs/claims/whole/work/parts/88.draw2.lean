/-! draw() -/
section DRAW2
variable {X : ab_X} {l : Launch}
theorem k_WP_draw_44 (x y z : Int32) (t p M : Nat) (w : ab_W) (n : Nat) {N : Nat → Nat} {R : Nat → Nat → Nat → Int64} {ks : Nat} {lf : Int32} {K : KA} {nr nw np : Nat} (hx : x = nI t) (hy : y = nI p) (hz : z = nI M) (ht : t < 8) (hM : 3 ≤ M ∧ M ≤ 60) (hp : p < np) (hB : KB w n 44 ks lf N R) (hK : KK w 44 K nr nw np) :
    ab_C X l i_WP_draw [.ref 0, .int x, .int y, .int z] w n 1 3480 (qI (nI (cnt (fresh (phi M) (DrV K p M)) M)) fun w' n' => n ≤ n' ∧ Fr FV w w' ∧ KB w' n' 44 ks lf (va_up N t M) (va_up R t (DrV K p M)) ∧ KP w') := by
  subst hx hy hz
  have hd := k_drawInto_44 (X := X) (l := l) (nI p) (nI M) t p M w n rfl rfl (Or.inl ⟨rfl, rfl⟩) (by omega) hM hp hB hK
  rw [qp_lt ht] at hd
  obtain ⟨hC, hA, hP⟩ := id hK
  obtain ⟨h0, hS0, hSh, g43, h43⟩ := id hB
  obtain ⟨gg, a1, a2⟩ : ∃ g : Nat → Option Nat, w 40 = .inl (3, 8, .inr (.inr (.inr (.inr g)))) ∧ ∀ t, t < 8 → g t = some (74 + 2 * t) := by
    obtain ⟨b, -, ⟨g, h1, h2⟩, -⟩ := hSh
    exact ⟨g, h1, h2⟩
  obtain ⟨w9, rfl⟩ := va_ex2 h0 a1
  refine ab_mqI cd_116 om_116 rfl (ab_sound ok_116 [] 80 ?_)
  (refine Exists.intro 0 ?_; refine ⟨0, _, Nat.zero_le _, Nat.zero_le _, c_WP_isSheet_y _ t _ _ rfl ht, ?_⟩; refine ab_q1_elim ?_)
  refine And.intro (fun h_9 => absurd h_9 ((by decide))) (fun _ => ?_)
  (refine Exists.intro 0 ?_; refine ⟨0, _, Nat.zero_le _, Nat.zero_le _, c_isPen_y_44 _ p _ _ rfl hp hA.1.2 rfl hC, ?_⟩; refine ab_q1_elim ?_)
  refine And.intro (fun h_9 => absurd h_9 ((by decide))) (fun _ => ?_)
  refine And.intro (fun h_9 => absurd h_9 ((nI_nlt hM.1 (by omega)))) (fun _ => ?_)
  refine And.intro (fun _ => ?_) (fun h_9 => absurd (nI_le hM.2 (by omega)) h_9)
  refine And.intro (vp_in_nI ht (by omega)) ?_
  intro z hz
  rw [nI_clamp (by omega), a2 t ht] at hz
  subst hz
  (refine Exists.intro 1 ?_; refine ⟨3480, _, by omega, by omega, hd, ?_⟩; rintro _ w1 n1 ⟨rfl, q1, q2, q3, q4, q5, b, q6⟩)
  obtain ⟨y0, -, hSh1, -⟩ := id q3
  obtain ⟨g2, a3, a4⟩ : ∃ g : Nat → Option Nat, w1 40 = .inl (3, 8, .inr (.inr (.inr (.inr g)))) ∧ ∀ t, t < 8 → g t = some (74 + 2 * t) := by
    obtain ⟨b, -, ⟨g, h1, h2⟩, -⟩ := hSh1
    exact ⟨g, h1, h2⟩
  obtain ⟨w1, rfl⟩ := va_ex2 y0 a3
  refine And.intro (vp_in_nI ht (by omega)) ?_
  intro z hz
  rw [nI_clamp (by omega), a4 t ht] at hz
  subst hz
  refine And.intro (⟨_, q6.1⟩) ?_
  (refine Exists.intro 0 ?_; refine ⟨0, _, Nat.zero_le _, Nat.zero_le _, c_Sheet_unlike _ b M _ _ hM.2 q6, ?_⟩; refine ab_q1_elim ?_)
  exact ⟨rfl, q1, q2, q3, q4⟩
theorem k_WP_draw_n_44 (x y z : Int32) (w : ab_W) (n : Nat) {ks : Nat} {lf : Int32} {K : KA} {nr nw np : Nat} (hb : (x < 0 ∨ nI 8 ≤ x) ∨ (y < 0 ∨ nI np ≤ y) ∨ (z < nI 3 ∨ nI 60 < z)) (h0 : w 0 = oWP 44 ks lf) (hC : CKit w 44 K nr nw np) (hA : KAok K nw np) :
    ab_C X l i_WP_draw [.ref 0, .int x, .int y, .int z] w n 0 0 (ab_q1 (some (.int (-nI 1))) w n) := by
  obtain ⟨w, rfl⟩ := va_ex h0
  refine ab_metI cd_116 om_116 rfl (ab_sound ok_116 [] 80 ?_)
  rcases in_or 8 (by omega) x with ⟨t, ht, hx⟩ | hx
  · (refine Exists.intro 0 ?_; refine ⟨0, _, Nat.zero_le _, Nat.zero_le _, c_WP_isSheet_y _ t _ _ hx ht, ?_⟩; refine ab_q1_elim ?_)
    refine And.intro (fun h_9 => absurd h_9 ((by decide))) (fun _ => ?_)
    rcases in_or np (by have := hA.1.2; omega) y with ⟨p, hp, hy⟩ | hy
    · (refine Exists.intro 0 ?_; refine ⟨0, _, Nat.zero_le _, Nat.zero_le _, c_isPen_y_44 _ p _ _ hy hp hA.1.2 rfl hC, ?_⟩; refine ab_q1_elim ?_)
      refine And.intro (fun h_9 => absurd h_9 ((by decide))) (fun _ => ?_)
      have hz := (hb.resolve_left (fun q => n_out (by omega) ht q hx)).resolve_left (fun q => n_out (by have := hA.1.2; omega) hp q hy)
      refine And.intro (fun e1 => ?_) (fun e1 => ?_)
      · exact ⟨rfl, rfl, rfl⟩
      · refine And.intro (fun h_9 => absurd h_9 ((by have h9 := hz.resolve_left e1; rw [i32_lt] at h9; rw [i32_le]; omega))) (fun _ => ?_)
        exact ⟨rfl, rfl, rfl⟩
    · (refine Exists.intro 0 ?_; refine ⟨0, _, Nat.zero_le _, Nat.zero_le _, c_isPen_n_44 _ _ _ hy rfl hC, ?_⟩; refine ab_q1_elim ?_)
      refine And.intro (fun _ => ?_) (fun h_9 => absurd (rfl) h_9)
      exact ⟨rfl, rfl, rfl⟩
  · (refine Exists.intro 0 ?_; refine ⟨0, _, Nat.zero_le _, Nat.zero_le _, c_WP_isSheet_n _ _ _ hx, ?_⟩; refine ab_q1_elim ?_)
    refine And.intro (fun _ => ?_) (fun h_9 => absurd (rfl) h_9)
    exact ⟨rfl, rfl, rfl⟩
theorem k_WP_draw_59 (x y z : Int32) (t p M : Nat) (w : ab_W) (n : Nat) {N : Nat → Nat} {R : Nat → Nat → Nat → Int64} {ks : Nat} {lf : Int32} {K : KA} {nr nw np : Nat} (hx : x = nI t) (hy : y = nI p) (hz : z = nI M) (ht : t < 8) (hM : 3 ≤ M ∧ M ≤ 60) (hp : p < np) (hB : KB w n 59 ks lf N R) (hK : KK w 59 K nr nw np) :
    ab_C X l i_WP_draw [.ref 0, .int x, .int y, .int z] w n 1 3480 (qI (nI (cnt (fresh (phi M) (DrV K p M)) M)) fun w' n' => n ≤ n' ∧ Fr FV w w' ∧ KB w' n' 59 ks lf (va_up N t M) (va_up R t (DrV K p M)) ∧ KP w') := by
  subst hx hy hz
  have hd := k_drawInto_59 (X := X) (l := l) (nI p) (nI M) t p M w n rfl rfl (Or.inl ⟨rfl, rfl⟩) (by omega) hM hp hB hK
  rw [qp_lt ht] at hd
  obtain ⟨hC, hA, hP⟩ := id hK
  obtain ⟨h0, hS0, hSh, g43, h43⟩ := id hB
  obtain ⟨gg, a1, a2⟩ : ∃ g : Nat → Option Nat, w 40 = .inl (3, 8, .inr (.inr (.inr (.inr g)))) ∧ ∀ t, t < 8 → g t = some (74 + 2 * t) := by
    obtain ⟨b, -, ⟨g, h1, h2⟩, -⟩ := hSh
    exact ⟨g, h1, h2⟩
  obtain ⟨w9, rfl⟩ := va_ex2 h0 a1
  refine ab_mqI cd_116 om_116 rfl (ab_sound ok_116 [] 80 ?_)
  (refine Exists.intro 0 ?_; refine ⟨0, _, Nat.zero_le _, Nat.zero_le _, c_WP_isSheet_y _ t _ _ rfl ht, ?_⟩; refine ab_q1_elim ?_)
  refine And.intro (fun h_9 => absurd h_9 ((by decide))) (fun _ => ?_)
  (refine Exists.intro 0 ?_; refine ⟨0, _, Nat.zero_le _, Nat.zero_le _, c_isPen_y_59 _ p _ _ rfl hp hA.1.2 rfl hC, ?_⟩; refine ab_q1_elim ?_)
  refine And.intro (fun h_9 => absurd h_9 ((by decide))) (fun _ => ?_)
  refine And.intro (fun h_9 => absurd h_9 ((nI_nlt hM.1 (by omega)))) (fun _ => ?_)
  refine And.intro (fun _ => ?_) (fun h_9 => absurd (nI_le hM.2 (by omega)) h_9)
  refine And.intro (vp_in_nI ht (by omega)) ?_
  intro z hz
  rw [nI_clamp (by omega), a2 t ht] at hz
  subst hz
  (refine Exists.intro 1 ?_; refine ⟨3480, _, by omega, by omega, hd, ?_⟩; rintro _ w1 n1 ⟨rfl, q1, q2, q3, q4, q5, b, q6⟩)
  obtain ⟨y0, -, hSh1, -⟩ := id q3
  obtain ⟨g2, a3, a4⟩ : ∃ g : Nat → Option Nat, w1 40 = .inl (3, 8, .inr (.inr (.inr (.inr g)))) ∧ ∀ t, t < 8 → g t = some (74 + 2 * t) := by
    obtain ⟨b, -, ⟨g, h1, h2⟩, -⟩ := hSh1
    exact ⟨g, h1, h2⟩
  obtain ⟨w1, rfl⟩ := va_ex2 y0 a3
  refine And.intro (vp_in_nI ht (by omega)) ?_
  intro z hz
  rw [nI_clamp (by omega), a4 t ht] at hz
  subst hz
  refine And.intro (⟨_, q6.1⟩) ?_
  (refine Exists.intro 0 ?_; refine ⟨0, _, Nat.zero_le _, Nat.zero_le _, c_Sheet_unlike _ b M _ _ hM.2 q6, ?_⟩; refine ab_q1_elim ?_)
  exact ⟨rfl, q1, q2, q3, q4⟩
theorem k_WP_draw_n_59 (x y z : Int32) (w : ab_W) (n : Nat) {ks : Nat} {lf : Int32} {K : KA} {nr nw np : Nat} (hb : (x < 0 ∨ nI 8 ≤ x) ∨ (y < 0 ∨ nI np ≤ y) ∨ (z < nI 3 ∨ nI 60 < z)) (h0 : w 0 = oWP 59 ks lf) (hC : CKit w 59 K nr nw np) (hA : KAok K nw np) :
    ab_C X l i_WP_draw [.ref 0, .int x, .int y, .int z] w n 0 0 (ab_q1 (some (.int (-nI 1))) w n) := by
  obtain ⟨w, rfl⟩ := va_ex h0
  refine ab_metI cd_116 om_116 rfl (ab_sound ok_116 [] 80 ?_)
  rcases in_or 8 (by omega) x with ⟨t, ht, hx⟩ | hx
  · (refine Exists.intro 0 ?_; refine ⟨0, _, Nat.zero_le _, Nat.zero_le _, c_WP_isSheet_y _ t _ _ hx ht, ?_⟩; refine ab_q1_elim ?_)
    refine And.intro (fun h_9 => absurd h_9 ((by decide))) (fun _ => ?_)
    rcases in_or np (by have := hA.1.2; omega) y with ⟨p, hp, hy⟩ | hy
    · (refine Exists.intro 0 ?_; refine ⟨0, _, Nat.zero_le _, Nat.zero_le _, c_isPen_y_59 _ p _ _ hy hp hA.1.2 rfl hC, ?_⟩; refine ab_q1_elim ?_)
      refine And.intro (fun h_9 => absurd h_9 ((by decide))) (fun _ => ?_)
      have hz := (hb.resolve_left (fun q => n_out (by omega) ht q hx)).resolve_left (fun q => n_out (by have := hA.1.2; omega) hp q hy)
      refine And.intro (fun e1 => ?_) (fun e1 => ?_)
      · exact ⟨rfl, rfl, rfl⟩
      · refine And.intro (fun h_9 => absurd h_9 ((by have h9 := hz.resolve_left e1; rw [i32_lt] at h9; rw [i32_le]; omega))) (fun _ => ?_)
        exact ⟨rfl, rfl, rfl⟩
    · (refine Exists.intro 0 ?_; refine ⟨0, _, Nat.zero_le _, Nat.zero_le _, c_isPen_n_59 _ _ _ hy rfl hC, ?_⟩; refine ab_q1_elim ?_)
      refine And.intro (fun _ => ?_) (fun h_9 => absurd (rfl) h_9)
      exact ⟨rfl, rfl, rfl⟩
  · (refine Exists.intro 0 ?_; refine ⟨0, _, Nat.zero_le _, Nat.zero_le _, c_WP_isSheet_n _ _ _ hx, ?_⟩; refine ab_q1_elim ?_)
    refine And.intro (fun _ => ?_) (fun h_9 => absurd (rfl) h_9)
    exact ⟨rfl, rfl, rfl⟩
theorem md_tm (x : Int) (k : Nat) {N : Nat} (hN : 0 < N) : md (x.tmod N * k) N = (md x N * k) % N := by
  have h1 : ((md (x.tmod N * k) N : Nat) : Int) = (((md x N * k) % N : Nat) : Int) := by
    rw [md_cast _ hN, Int.natCast_emod, Int.natCast_mul, md_cast _ hN, Int.tmod_def, Int.mul_emod, Int.sub_mul_emod_self_left]
    conv => rhs; rw [Int.mul_emod, Int.emod_emod]
  omega
abbrev FYd (k : Nat) : Prop := FZ k ∨ FW k
theorem k_drawPen (x : Int32) (p M : Nat) (w : ab_W) (n : Nat) {s : Nat → Int32} {wd tn : Int64} {N : Nat → Nat} {R : Nat → Nat → Nat → Int64} {K : KA} {nr nw np : Nat} (hx : x = nI p) (hp : p < np) (hK : KAok K nw np) (hB : MB w s wd tn N R) (hN : MN w s M) (hC : MKit w K nr nw np) (hA : MA w) :
    ab_C X l i_Mod_drawPen [.ref 90, .int x] w n 0 0 (qV fun w' n' => n = n' ∧ Fr FYd w w' ∧ MB w' (upd s 33 (nI (PnL K p).length)) wd (lN (PnT K p)) N R ∧ MN w' (upd s 33 (nI (PnL K p).length)) M ∧ MA w' ∧ ∃ g, w' 117 = aJ 3600 g ∧ Rm M g (DrV K p M)) := by
  subst hx
  have hl : (PnL K p).length ≤ 5 := Nat.le_trans (flt_len _) (pn_ok hK hp).2
  obtain ⟨hM, ⟨c1, c2⟩, pf, pg, ph, c3, c4, c5, c6⟩ := id hN
  have h90 := hB.1
  obtain ⟨w9, rfl⟩ := va_ex h90
  generalize hQ : (qV fun w' n' => n = n' ∧ Fr FYd (va_up w9 90 (oMod s wd tn)) w' ∧ MB w' (upd s 33 (nI (PnL K p).length)) wd (lN (PnT K p)) N R ∧ MN w' (upd s 33 (nI (PnL K p).length)) M ∧ MA w' ∧ ∃ g, w' 117 = aJ 3600 g ∧ Rm M g (DrV K p M)) = Q
  subst hQ
  refine ab_mqV cd_199 om_199 rfl rfl (ab_sound ok_199 [7] 80 ?_)
  (refine Exists.intro 0 ?_; refine ⟨0, _, Nat.zero_le _, Nat.zero_le _, k_takePen _ p _ _ rfl hp hK rfl hC hA, ?_⟩; rintro _ w1 _ ⟨rfl, rfl, f1, z90, hPm⟩)
  generalize hmm : (PnL K p).length = m at *
  have hma := hPm.ma
  obtain ⟨-, -, ⟨f109, h109, g109⟩, f110, h110, g110⟩ := hPm
  rw [hmm] at g109 g110
  have hB1 : MB w1 (upd s 33 (nI m)) wd (lN (PnT K p)) N R := by
    have := hB.setk (s' := upd s 33 (nI m)) (wd2 := wd) (tn2 := lN (PnT K p)) (G := fun k => k = 33) (Fr.refl.us rfl) (by omega) (by omega)
    obtain ⟨j0, j1, j2, ⟨j3, j4⟩, ⟨j5, j6⟩, j7, j8⟩ := this
    have fz : ∀ k, k ≠ 90 → ¬ (107 ≤ k ∧ k ≤ 110) → w1 k = va_up (va_up w9 90 (oMod s wd tn)) 90 (oMod (upd s 33 (nI m)) wd (lN (PnT K p))) k := fun k a b => (f1 k (fun z => z.elim a b)).trans (va_un a).symm
    have fr : Fr (fun k => 107 ≤ k ∧ k ≤ 110) (va_up (va_up w9 90 (oMod s wd tn)) 90 (oMod (upd s 33 (nI m)) wd (lN (PnT K p)))) w1 := fun k hk => by
      by_cases e : k = 90
      · subst e; exact z90
      · exact fz k e hk
    exact ⟨z90, j1.fr fr (Fr.refl (F := fun _ => False)) (by omega) (by omega) (by omega) (fun z => z) (fun z => z), j2.fr fr (by omega) (by omega), ⟨j3, fr.get j4 (by omega)⟩, ⟨j5, fr.get j6 (by omega)⟩, j7, fr.get j8 (by omega)⟩
  have y111 := f1.get c3 (by omega)
  have y112 := f1.get c4 (by omega)
  have y113 := f1.get c5 (by omega)
  obtain ⟨f4, h114⟩ := hB1.2.2.2.1
  obtain ⟨f7, h117⟩ := hB1.2.2.2.2.1
  obtain ⟨f8, h118⟩ := hB1.2.2.2.2.2
  have hS := fun i => (pn_at hK hp (PnO K p i)).2
  have loop : ∀ k, k ≤ M → ∀ w3, Fr FW w1 w3 → ∀ f, w3 114 = aJ 60 f → ∀ g, w3 117 = aJ 3600 g → (∀ j i, j < k → i < phi M → g (60 * j + i) = DrV K p M j i) → ∀ l3 : Option Value, ab_Ev X l i_Mod_drawPen 7 [some (.ref 90), some (.int (nI p)), some (.int (nI k)), l3] [] w3 n 0 0 (qV fun w' n' => n = n' ∧ Fr FYd (va_up w9 90 (oMod s wd tn)) w' ∧ MB w' (upd s 33 (nI m)) wd (lN (PnT K p)) N R ∧ MN w' (upd s 33 (nI m)) M ∧ MA w' ∧ ∃ g, w' 117 = aJ 3600 g ∧ Rm M g (DrV K p M)) := by
    refine ab_up M ?_ (fun k hk ih => ?_)
    · intro w3 hf f hf4 g hg hr l3
      have hB3 : MB w3 (upd s 33 (nI m)) wd (lN (PnT K p)) N R := hB1.wr hf (fun k hk => by omega) ⟨f, hf4⟩ ⟨g, hg⟩ ⟨f8, hf.get h118 (by omega)⟩
      have hma3 := hma.fr hf (fun k hk => by omega)
      have hN3 : MN w3 (upd s 33 (nI m)) M := ⟨hM, ⟨(upd_ne (by omega)).trans c1, (upd_ne (by omega)).trans c2⟩, pf, pg, ph, hf.get y111 (by omega), hf.get y112 (by omega), hf.get y113 (by omega), c6⟩
      have hff := f1.tr (H := FYd) hf (fun k hk => .inl hk) (fun k hk => .inr hk)
      obtain ⟨w3, rfl⟩ := va_ex hB3.1
      refine ab_sound ok_199 [7] 80 ?_
      refine And.intro (fun _ => ?_) (fun h_9 => absurd ((by show upd s 33 (nI m) 38 ≤ nI M; rw [upd_ne (by omega), c1]; exact nI_le (Nat.le_refl _) (by omega))) h_9)
      exact ⟨rfl, rfl, hff, hB3, hN3, hma3, g, hg, hr⟩
    · intro w3 hf f hf4 g hg hr l3
      have k90 : w3 90 = oMod (upd s 33 (nI m)) wd (lN (PnT K p)) := hf.get z90 (by omega)
      have e38 : upd s 33 (nI m) 38 = nI M := (upd_ne (by omega)).trans c1
      have e39 : upd s 33 (nI m) 39 = nI (phi M) := (upd_ne (by omega)).trans c2
      have inn : ∀ i, i ≤ m → ∀ w4 f4, Fr FW w1 w4 → w4 114 = aJ 60 f4 → w4 117 = aJ 3600 g → E60 f4 (drR K p M k i) → ab_Ev X l i_Mod_drawPen 21 [some (.ref 90), some (.int (nI p)), some (.int (nI k)), some (.int (nI i))] [] w4 n 0 0 (qV fun w' n' => n = n' ∧ Fr FYd (va_up w9 90 (oMod s wd tn)) w' ∧ MB w' (upd s 33 (nI m)) wd (lN (PnT K p)) N R ∧ MN w' (upd s 33 (nI m)) M ∧ MA w' ∧ ∃ g, w' 117 = aJ 3600 g ∧ Rm M g (DrV K p M)) := by
        refine ab_up m ?_ (fun i hi jh => ?_)
        · intro w4 f4 hf4 t114 t117 hE
          have x90 := hf4.get z90 (by omega)
          have x113 := hf4.get y113 (by omega)
          obtain ⟨w4, rfl⟩ := va_ex x90
          refine ab_sound ok_199 [7] 80 ?_
          refine And.intro (fun _ => ?_) (fun h_9 => absurd ((by show upd s 33 (nI m) 33 ≤ nI m; rw [upd_at]; exact nI_le (Nat.le_refl _) (by omega))) h_9)
          (refine Exists.intro 0 ?_; refine ⟨0, _, Nat.zero_le _, Nat.zero_le _, c_Mod_write_117 _ M (60 * k) 3600 _ _ (pk_mul 60 k) hM.2 hM.1 (by omega) (by omega) e38 e39 rfl x113 c6 t114 t117, ?_⟩; refine ab_q1_elim ?_)
          refine ab_ev_of (ih _ (hf4.up (k := 117) (by omega)) _ ((va_un (by omega)).trans t114) _ va_us (wr_rows hM hr ?_) (some (.int (nI m)))) (by rw [nI_s k]; rfl) rfl rfl
          intro i hi
          unfold DrV
          rw [hmm]
          exact e60_red hM.2 hE i
        · intro w4 f4 hf4 t114 t117 hE
          have x90 := hf4.get z90 (by omega)
          have x109 := hf4.get h109 (by omega)
          have x110 := hf4.get h110 (by omega)
          have hlt := drI_lt K p k i (show 0 < M by omega)
          obtain ⟨w4, rfl⟩ := va_ex4 x90 t114 x109 x110
          refine ab_sound ok_199 [21] 80 ?_
          refine And.intro (fun h_9 => absurd h_9 ((by show ¬ upd s 33 (nI m) 33 ≤ nI i; rw [upd_at]; exact nI_ge hi (by omega)))) (fun _ => ?_)
          refine And.intro (vp_in_nI (by omega) (by omega)) ?_
          rw [nI_clamp (by omega), g109 i hi]
          have hz : (upd s 33 (nI m) 38).toInt64 = lN M := by rw [e38]; exact lN_of_toInt (by rw [Int32.toInt_toInt64, nI_toInt (by omega)])
          have hix : md ((PnW K p (PnO K p i) % (upd s 33 (nI m) 38).toInt64 * (nI k).toInt64).toInt) M = drI K p M k i := by
            have h1 := tmod_md (PnF K p i).toInt (show 0 < M by omega)
            have h2 := md_lt (PnF K p i).toInt (show 0 < M by omega)
            have h3 : ((PnF K p i).toInt.tmod M).natAbs ≤ 60 := by
              by_cases e : 0 ≤ (PnF K p i).toInt
              · have := h1.1 e
                omega
              · have := h1.2 (by omega)
                omega
            have h4 : ((PnF K p i).toInt.tmod M * (k : Int)).natAbs ≤ 60 * 60 := by
              rw [Int.natAbs_mul, Int.natAbs_natCast]
              exact Nat.mul_le_mul h3 (by omega)
            rw [hz, Int64.toInt_mul, Int64.toInt_mod, lN_toI (by omega), Int32.toInt_toInt64, nI_toInt (by omega)]
            rw [Int.bmod_eq_of_le_mul_two (by show _ ≤ (PnF K p i).toInt.tmod M * (k : Int) * 2; omega) (by show (PnF K p i).toInt.tmod M * (k : Int) * 2 < _; omega)]
            exact md_tm _ _ (by omega)
          refine And.intro ((fun z => by have := hz.symm.trans z; have h9 := congrArg Int64.toInt this; rw [lN_toI (by omega)] at h9; have h0 : (0 : Int64).toInt = 0 := rfl; omega)) ?_
          rw [i64_rem]
          (refine Exists.intro 0 ?_; refine ⟨0, _, Nat.zero_le _, Nat.zero_le _, c_Mod_by _ M (by omega) (by omega) _ _ rfl e38, ?_⟩; refine ab_q1_elim ?_)
          rw [hix]
          refine And.intro (vp_in_nI (by omega) (by omega)) ?_
          refine And.intro (vp_in_nI (by omega) (by omega)) ?_
          refine And.intro (vp_in_nI (by omega) (by omega)) ?_
          rw [nI_clamp (by omega), nI_clamp (by omega), g110 i hi]
          refine ab_ev_of (jh _ _ (hf4.up (k := 114) (by omega)) va_us t117 ?_) (by rw [nI_s i]; rfl) rfl rfl
          refine e60_upd hE rfl ?_
          have h5 : (Int32.ofInt (PnS K p (PnO K p i))).toInt64 = Int64.ofInt (PnS K p (PnO K p i)) := by
            have := hS i
            unfold PnS
            rw [← Int64.toInt_inj, Int32.toInt_toInt64, Int32.toInt_ofInt_of_le (by omega) (by omega), Int64.toInt_ofInt_of_le (by omega) (by omega)]
          rw [hE _ (by omega), h5]
          rfl
      obtain ⟨w3, rfl⟩ := va_ex k90
      refine ab_sound ok_199 [21] 80 ?_
      refine And.intro (fun h_9 => absurd h_9 ((by show ¬ upd s 33 (nI m) 38 ≤ nI k; rw [e38]; exact nI_ge hk (by omega)))) (fun _ => ?_)
      (refine Exists.intro 0 ?_; refine ⟨0, _, Nat.zero_le _, Nat.zero_le _, c_Mod_clear _ _ rfl hf4, ?_⟩; refine ab_q1_elim ?_)
      exact ab_ev_of (inn 0 (by omega) _ _ (hf.up (k := 114) (by omega)) va_us ((va_un (by omega)).trans hg) (e60_zb f)) rfl rfl rfl
  exact ab_ev_of (loop 0 (by omega) w1 Fr.refl f4 h114 f7 h117 (fun j i hj => by omega) none) rfl rfl rfl
theorem k_Mod_draw (x y z : Int32) (t p M : Nat) (w : ab_W) (n : Nat) {s : Nat → Int32} {wd tn : Int64} {N : Nat → Nat} {R : Nat → Nat → Nat → Int64} {K : KA} {nr nw np : Nat} (hx : x = nI t) (hy : y = nI p) (hz : z = nI M) (ht : t < 8) (hM : 3 ≤ M ∧ M ≤ 60) (hp : p < np) (hK : KAok K nw np) (hB : MB w s wd tn N R) (hC : MKit w K nr nw np) (hA : MA w) :
    ab_C X l i_Mod_draw [.ref 90, .int x, .int y, .int z] w n 0 0 (qI (nI (cnt (fresh (phi M) (DrV K p M)) M)) fun w' n' => n = n' ∧ Fr (fun k => FM k ∨ FZ k) w w' ∧ MA w' ∧ ∃ s' tn', Fr (fun k => GA k ∨ k = 33) s s' ∧ s' 0 = nI 0 ∧ MB w' s' wd tn' (va_up N t M) (va_up R t (DrV K p M))) := by
  subst hx hy hz
  have hB0 := hB.set0 (nI 0)
  have hC0 := hC.up90 (c := oMod (upd s 0 (nI 0)) wd tn)
  have hA0 := hA.up90 (c := oMod (upd s 0 (nI 0)) wd tn)
  obtain ⟨h0, -⟩ := hB
  obtain ⟨w9, rfl⟩ := va_ex h0
  refine ab_mqI cd_192 om_192 rfl (ab_sound ok_192 [] 80 ?_)
  (refine Exists.intro 0 ?_; refine ⟨0, _, Nat.zero_le _, Nat.zero_le _, c_Mod_isSheet_y _ t _ _ rfl ht, ?_⟩; refine ab_q1_elim ?_)
  refine And.intro (fun h_9 => absurd h_9 ((by decide))) (fun _ => ?_)
  (refine Exists.intro 0 ?_; refine ⟨0, _, Nat.zero_le _, Nat.zero_le _, c_Mod_isPen_y _ p _ _ rfl hp hK.1.2 hB0.1 hC0, ?_⟩; refine ab_q1_elim ?_)
  refine And.intro (fun h_9 => absurd h_9 ((by decide))) (fun _ => ?_)
  (refine Exists.intro 0 ?_; refine ⟨0, _, Nat.zero_le _, Nat.zero_le _, c_Mod_isIn _ _ _ _ _, ?_⟩; refine ab_q1_elim ?_)
  rw [if_pos ⟨nI_le hM.1 (by omega), nI_le hM.2 (by omega)⟩]
  refine And.intro (fun _ => ?_) (fun h_9 => absurd h_9 ((by decide)))
  (refine Exists.intro 0 ?_; refine ⟨0, _, Nat.zero_le _, Nat.zero_le _, k_layN _ M _ _ rfl hM hB0.1 hB0.2.1, ?_⟩; rintro _ w1 _ ⟨rfl, rfl, f1, s1, z90, g1, hN1⟩)
  have hB1 := hB0.laid f1 z90 hN1
  have hC1 := hC0.fr f1 (fun k hk => by omega)
  have hA1 := hA0.fr f1 (fun k hk => by omega)
  obtain ⟨w1, rfl⟩ := va_ex z90
  (refine Exists.intro 0 ?_; refine ⟨0, _, Nat.zero_le _, Nat.zero_le _, k_drawPen _ p M _ _ rfl hp hK hB1 hN1 hC1 hA1, ?_⟩; rintro _ w2 _ ⟨rfl, rfl, f2, hB2, hN2, hA2, g, h117, hr⟩)
  have hc2 := hB2.2.2.1
  obtain ⟨-, ⟨c1, c2⟩, -⟩ := id hN2
  obtain ⟨w2, rfl⟩ := va_ex hB2.1
  (refine Exists.intro 0 ?_; refine ⟨0, _, Nat.zero_le _, Nat.zero_le _, k_lay _ t M _ _ rfl ht hM rfl c1 hc2 h117 hr, ?_⟩; rintro _ w3 _ ⟨rfl, rfl, f3, hS3⟩)
  have hB3 := hB2.lay f3 hS3
  have hA3 := hA2.fr f3 (fun k hk => by omega)
  obtain ⟨G, G1, G2⟩ := hS3.rows
  have hR := G2 t ht
  have ff : Fr (fun k => FM k ∨ FZ k) (va_up w9 90 (oMod s wd tn)) w3 := (((Fr.refl.up (by omega)).trans (f1.mono (fun k hk => by omega))).trans (f2.mono (fun k hk => by omega))).trans (f3.mono (fun k hk => by omega))
  have gg : Fr (fun k => GA k ∨ k = 33) s (upd s1 33 (nI (PnL K p).length)) := ((Fr.refl.us (by omega)).trans (g1.mono (fun k hk => by omega))).us (by omega)
  have g0 : upd s1 33 (nI (PnL K p).length) 0 = nI 0 := (upd_ne (by omega)).trans (g1.get rfl (by omega))
  obtain ⟨w3, rfl⟩ := va_ex hB3.1
  (refine Exists.intro 0 ?_; refine ⟨0, _, Nat.zero_le _, Nat.zero_le _, c_Mod_unlike_116 _ M (phi M) (3600 * t) 28800 _ _ (pk_mul 3600 t) hM.2 (phi_le M hM.2) (by omega) (by omega) c1 c2 rfl G1, ?_⟩; refine ab_q1_elim ?_)
  rw [va_us, va_us] at hR
  rw [cnt_congr M (fun k hk => fresh_congr hR hk)]
  exact ⟨rfl, rfl, ff, hA3, _, _, gg, g0, hB3⟩
theorem k_Mod_draw_n (x y z : Int32) (w : ab_W) (n : Nat) {s : Nat → Int32} {wd tn : Int64} {K : KA} {nr nw np : Nat} (hb : (x < 0 ∨ nI 8 ≤ x) ∨ (y < 0 ∨ nI np ≤ y) ∨ (z < nI 3 ∨ nI 60 < z)) (h90 : w 90 = oMod s wd tn) (hC : MKit w K nr nw np) (hK : KAok K nw np) :
    ab_C X l i_Mod_draw [.ref 90, .int x, .int y, .int z] w n 0 0 (ab_q1 (some (.int (-nI 1))) (va_up w 90 (oMod (upd s 0 (nI 0)) wd tn)) n) := by
  have hC0 := hC.up90 (c := oMod (upd s 0 (nI 0)) wd tn)
  have h900 : va_up w 90 (oMod (upd s 0 (nI 0)) wd tn) 90 = oMod (upd s 0 (nI 0)) wd tn := rfl
  obtain ⟨w9, rfl⟩ := va_ex h90
  refine ab_metI cd_192 om_192 rfl (ab_sound ok_192 [] 80 ?_)
  rcases in_or 8 (by omega) x with ⟨t, ht, hx⟩ | hx
  · (refine Exists.intro 0 ?_; refine ⟨0, _, Nat.zero_le _, Nat.zero_le _, c_Mod_isSheet_y _ t _ _ hx ht, ?_⟩; refine ab_q1_elim ?_)
    refine And.intro (fun h_9 => absurd h_9 ((by decide))) (fun _ => ?_)
    rcases in_or np (by have := hK.1.2; omega) y with ⟨p, hp, hy⟩ | hy
    · (refine Exists.intro 0 ?_; refine ⟨0, _, Nat.zero_le _, Nat.zero_le _, c_Mod_isPen_y _ p _ _ hy hp hK.1.2 h900 hC0, ?_⟩; refine ab_q1_elim ?_)
      refine And.intro (fun h_9 => absurd h_9 ((by decide))) (fun _ => ?_)
      have hz := (hb.resolve_left (fun q => n_out (by omega) ht q hx)).resolve_left (fun q => n_out (by have := hK.1.2; omega) hp q hy)
      have hq : ¬ (nI 3 ≤ z ∧ z ≤ nI 60) := fun q => by
        obtain ⟨q1, q2⟩ := q
        rw [i32_le] at q1 q2
        rcases hz with h9 | h9
        · rw [i32_lt] at h9; omega
        · rw [i32_lt] at h9; omega
      (refine Exists.intro 0 ?_; refine ⟨0, _, Nat.zero_le _, Nat.zero_le _, c_Mod_isIn _ _ _ _ _, ?_⟩; refine ab_q1_elim ?_)
      rw [if_neg hq]
      refine And.intro (fun h_9 => absurd (rfl) h_9) (fun _ => ?_)
      exact ⟨rfl, rfl, rfl⟩
    · (refine Exists.intro 0 ?_; refine ⟨0, _, Nat.zero_le _, Nat.zero_le _, c_Mod_isPen_n _ _ _ hy h900 hC0, ?_⟩; refine ab_q1_elim ?_)
      refine And.intro (fun _ => ?_) (fun h_9 => absurd (rfl) h_9)
      exact ⟨rfl, rfl, rfl⟩
  · (refine Exists.intro 0 ?_; refine ⟨0, _, Nat.zero_le _, Nat.zero_le _, c_Mod_isSheet_n _ _ _ hx, ?_⟩; refine ab_q1_elim ?_)
    refine And.intro (fun _ => ?_) (fun h_9 => absurd (rfl) h_9)
    exact ⟨rfl, rfl, rfl⟩
end DRAW2
