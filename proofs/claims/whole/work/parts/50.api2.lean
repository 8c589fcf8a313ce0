section API2
variable {X : ab_X} {l : Launch}
def KB (w : ab_W) (n kn ks : Nat) (lf : Int32) (N : Nat → Nat) (R : Nat → Nat → Nat → Int64) : Prop := w 0 = oWP kn ks lf ∧ KS0 w ∧ KSh w n N R ∧ ∃ g, w 43 = aJ 3480 g
def KQ (w : ab_W) (n kn ks : Nat) (lf : Int32) (N : Nat → Nat) (R : Nat → Nat → Nat → Int64) : ab_W → Nat → Prop := fun w' n' => n ≤ n' ∧ Fr FRS w w' ∧ KB w' n' kn ks lf N R
theorem FRS0 : ¬ FRS 0 := by unfold FRS FS; omega
theorem KB.fr {F : Nat → Prop} {w w' : ab_W} {n n' kn ks : Nat} {lf : Int32} {N : Nat → Nat} {R : Nat → Nat → Nat → Int64} (h : KB w n kn ks lf N R) (hf : Fr F w w') (hF : ∀ k, F k → k ≠ 0 ∧ k ≠ 40 ∧ ¬ FRS k) (hn : n ≤ n') : KB w' n' kn ks lf N R := by
  obtain ⟨h0, h1, h2, g, h3⟩ := h
  refine ⟨hf.get h0 (fun z => (hF _ z).1 rfl), h1.fr hf (fun z => (hF _ z).2.2 (by unfold FRS FR; omega)) (fun z => (hF _ z).2.2 (by unfold FRS FR; omega)) (fun z => (hF _ z).2.2 (by unfold FRS FR; omega)), h2.fr hf (fun k hk => ⟨(hF k hk).2.1, fun z => (hF k hk).2.2 (Or.inr z)⟩) hn, g, hf.get h3 (fun z => (hF _ z).2.2 (by unfold FRS FR; omega))⟩
theorem KQ.rfl {w : ab_W} {n kn ks : Nat} {lf : Int32} {N : Nat → Nat} {R : Nat → Nat → Nat → Int64} (h : KB w n kn ks lf N R) : KQ w n kn ks lf N R w n := ⟨Nat.le_refl _, Fr.refl, h⟩
theorem k_WP_product_n (x y z : Int32) (w : ab_W) (n : Nat) {N : Nat → Nat} {R : Nat → Nat → Nat → Int64} {kn ks : Nat} {lf : Int32} (h : KB w n kn ks lf N R) (hb : (x < 0 ∨ nI 8 ≤ x) ∨ badS N y ∨ badS N z ∨ ∃ u v, u < 8 ∧ v < 8 ∧ y = nI u ∧ z = nI v ∧ N u ≠ 0 ∧ N v ≠ 0 ∧ N u ≠ N v) :
    ab_C X l i_WP_product [.ref 0, .int x, .int y, .int z] w n 0 0 (ab_q1 (some (.int (-nI 1))) w n) := by
  obtain ⟨h0, hK, hS, -⟩ := h
  obtain ⟨w, rfl⟩ := va_ex h0
  refine ab_metI cd_133 om_133 rfl (ab_sound ok_133 [61] 80 ?_)
  rcases sh_or N y with ⟨u, hu, hy, hNu⟩ | hy
  · (refine Exists.intro 0 ?_; refine ⟨0, _, Nat.zero_le _, Nat.zero_le _, k_sheetThatIs_y _ u _ _ hy hu hNu h0 hS, ?_⟩; refine ab_q1_elim ?_)
    obtain ⟨aa, hA, hM⟩ := hS.is hu hNu
    rcases sh_or N z with ⟨v, hv, hz, hNv⟩ | hz
    · (refine Exists.intro 0 ?_; refine ⟨0, _, Nat.zero_le _, Nat.zero_le _, k_sheetThatIs_y _ v _ _ hz hv hNv h0 hS, ?_⟩; refine ab_q1_elim ?_)
      obtain ⟨bb, hB, hM2⟩ := hS.is hv hNv
      rcases in_or 8 (by omega) x with ⟨t, ht, hx⟩ | hx
      · (refine Exists.intro 0 ?_; refine ⟨0, _, Nat.zero_le _, Nat.zero_le _, c_WP_isSheet_y _ t _ _ hx ht, ?_⟩; refine ab_q1_elim ?_)
        refine And.intro (fun h_9 => absurd h_9 ((by decide))) (fun _ => ?_)
        refine Exists.intro _ (Exists.intro _ (And.intro (hA.1) (And.intro rfl ?_)))
        refine Exists.intro _ (Exists.intro _ (And.intro (hB.1) (And.intro rfl ?_)))
        have hne : N u ≠ N v := by
          rcases hb with h1 | h1 | h1 | ⟨u', v', a1, a2, a3, a4, a5, a6, a7⟩
          · exact absurd hx (n_out (by omega) ht h1)
          · rcases h1 with h1 | ⟨t', b1, b2, b3⟩
            · exact absurd hy (n_out (by omega) hu h1)
            · have := (nI_eq (by omega) (by omega)).mp (hy.symm.trans b2)
              subst this
              exact absurd b3 hNu
          · rcases h1 with h1 | ⟨t', b1, b2, b3⟩
            · exact absurd hz (n_out (by omega) hv h1)
            · have := (nI_eq (by omega) (by omega)).mp (hz.symm.trans b2)
              subst this
              exact absurd b3 hNv
          · have e1 := (nI_eq (by omega) (by omega)).mp (hy.symm.trans a3)
            have e2 := (nI_eq (by omega) (by omega)).mp (hz.symm.trans a4)
            subst e1 e2
            exact a7
        refine And.intro (fun h_9 => absurd h_9 ((fun q => hne ((nI_eq (by omega) (by omega)).mp q)))) (fun _ => ?_)
        exact ⟨rfl, rfl, rfl⟩
      · (refine Exists.intro 0 ?_; refine ⟨0, _, Nat.zero_le _, Nat.zero_le _, c_WP_isSheet_n _ _ _ hx, ?_⟩; refine ab_q1_elim ?_)
        refine And.intro (fun _ => ?_) (fun h_9 => absurd ((by decide)) h_9)
        exact ⟨rfl, rfl, rfl⟩
    · (refine Exists.intro 0 ?_; refine ⟨0, _, Nat.zero_le _, Nat.zero_le _, k_sheetThatIs_n _ _ _ hz h0 hS, ?_⟩; refine ab_q1_elim ?_)
      rcases in_or 8 (by omega) x with ⟨t, ht, hx⟩ | hx
      · (refine Exists.intro 0 ?_; refine ⟨0, _, Nat.zero_le _, Nat.zero_le _, c_WP_isSheet_y _ t _ _ hx ht, ?_⟩; refine ab_q1_elim ?_)
        refine And.intro (fun h_9 => absurd h_9 ((by decide))) (fun _ => ?_)
        exact ⟨rfl, rfl, rfl⟩
      · (refine Exists.intro 0 ?_; refine ⟨0, _, Nat.zero_le _, Nat.zero_le _, c_WP_isSheet_n _ _ _ hx, ?_⟩; refine ab_q1_elim ?_)
        refine And.intro (fun _ => ?_) (fun h_9 => absurd ((by decide)) h_9)
        exact ⟨rfl, rfl, rfl⟩
  · (refine Exists.intro 0 ?_; refine ⟨0, _, Nat.zero_le _, Nat.zero_le _, k_sheetThatIs_n _ _ _ hy h0 hS, ?_⟩; refine ab_q1_elim ?_)
    rcases sh_or N z with ⟨v, hv, hz, hNv⟩ | hz
    · (refine Exists.intro 0 ?_; refine ⟨0, _, Nat.zero_le _, Nat.zero_le _, k_sheetThatIs_y _ v _ _ hz hv hNv h0 hS, ?_⟩; refine ab_q1_elim ?_)
      rcases in_or 8 (by omega) x with ⟨t, ht, hx⟩ | hx
      · (refine Exists.intro 0 ?_; refine ⟨0, _, Nat.zero_le _, Nat.zero_le _, c_WP_isSheet_y _ t _ _ hx ht, ?_⟩; refine ab_q1_elim ?_)
        refine And.intro (fun h_9 => absurd h_9 ((by decide))) (fun _ => ?_)
        exact ⟨rfl, rfl, rfl⟩
      · (refine Exists.intro 0 ?_; refine ⟨0, _, Nat.zero_le _, Nat.zero_le _, c_WP_isSheet_n _ _ _ hx, ?_⟩; refine ab_q1_elim ?_)
        refine And.intro (fun _ => ?_) (fun h_9 => absurd ((by decide)) h_9)
        exact ⟨rfl, rfl, rfl⟩
    · (refine Exists.intro 0 ?_; refine ⟨0, _, Nat.zero_le _, Nat.zero_le _, k_sheetThatIs_n _ _ _ hz h0 hS, ?_⟩; refine ab_q1_elim ?_)
      rcases in_or 8 (by omega) x with ⟨t, ht, hx⟩ | hx
      · (refine Exists.intro 0 ?_; refine ⟨0, _, Nat.zero_le _, Nat.zero_le _, c_WP_isSheet_y _ t _ _ hx ht, ?_⟩; refine ab_q1_elim ?_)
        refine And.intro (fun h_9 => absurd h_9 ((by decide))) (fun _ => ?_)
        exact ⟨rfl, rfl, rfl⟩
      · (refine Exists.intro 0 ?_; refine ⟨0, _, Nat.zero_le _, Nat.zero_le _, c_WP_isSheet_n _ _ _ hx, ?_⟩; refine ab_q1_elim ?_)
        refine And.intro (fun _ => ?_) (fun h_9 => absurd ((by decide)) h_9)
        exact ⟨rfl, rfl, rfl⟩
/-- wiping -/
theorem KShA.wipe {w : ab_W} {n : Nat} {N : Nat → Nat} {R : Nat → Nat → Nat → Int64} {a : Nat → Nat} (h : KShA w n N R a) {t : Nat} (ht : t < 8) {p : Int32} : KShA (va_up w (74 + 2 * t) (oSheet (nI 0) p (a t))) n (va_up N t 0) R a := by
  obtain ⟨h0, ⟨g, h1, h2⟩, h3, h4, h5, h6⟩ := h
  have hqa : ∀ u, u < 9 → a u ≠ 74 + 2 * t := by
    intro u hu z
    have h9 := (h4 u hu).2
    unfold qp at h9
    split at h9 <;> omega
  refine ⟨h0, ⟨g, (va_un (by omega)).trans h1, h2⟩, ?_, h4, h5, ?_⟩
  · intro u hu
    by_cases e : u = t
    · subst e; rw [va_us]; omega
    · rw [va_un e]; exact h3 u hu
  · intro u hu
    obtain ⟨⟨v, p0, k1, k2⟩, ⟨f, k3⟩, k4⟩ := h6 u hu
    by_cases e : u = t
    · subst e
      rw [va_us, va_un (hqa u hu), qp_lt ht]
      exact ⟨⟨_, p, va_us, fun _ => rfl⟩, ⟨f, k3.imp id (fun z => ⟨z.1, fun _ => rfl⟩)⟩, fun _ z => absurd rfl z⟩
    · rw [va_un e]
      have g1 : ¬ (qp u = 74 + 2 * t) := by
        unfold qp
        split <;> omega
      have hf : Fr (fun k => k = 74 + 2 * t) w (va_up w (74 + 2 * t) (oSheet (nI 0) p (a t))) := Fr.refl.up rfl
      exact ⟨⟨v, p0, hf.get k1 g1, k2⟩, ⟨f, k3.imp (fun z => hf.get z (hqa u hu)) (fun z => ⟨hf.get z.1 (hqa u hu), z.2⟩)⟩, fun x1 x2 => (k4 x1 x2).fr hf g1 (hqa u hu)⟩
theorem k_WP_wipe (x : Int32) (t : Nat) (w : ab_W) (n : Nat) {N : Nat → Nat} {R : Nat → Nat → Nat → Int64} {kn ks : Nat} {lf : Int32} (hx : x = nI t) (ht : t < 8) (hN : N t ≠ 0) (h : KB w n kn ks lf N R) :
    ab_C X l i_WP_wipe [.ref 0, .int x] w n 0 0 (qI (nI 1) (KQ w n kn ks lf (va_up N t 0) R)) := by
  obtain ⟨h0, hK, hS, g, h43⟩ := h
  obtain ⟨w, rfl⟩ := va_ex h0
  refine ab_mqI cd_126 om_126 rfl (ab_sound ok_126 [] 80 ?_)
  (refine Exists.intro 0 ?_; refine ⟨0, _, Nat.zero_le _, Nat.zero_le _, k_sheetThatIs_y _ t _ _ hx ht hN h0 hS, ?_⟩; refine ab_q1_elim ?_)
  obtain ⟨a, hA⟩ := hS
  obtain ⟨⟨v, p, k1, k2⟩, -⟩ := hA.2.2.2.2.2 t (by omega)
  rw [qp_lt ht] at k1
  refine Exists.intro _ (And.intro k1 (And.intro (by show 0 < 3; omega) ?_))
  have hf : Fr (fun k => k = 74 + 2 * t) (va_up w 0 (oWP kn ks lf)) (va_up (va_up w 0 (oWP kn ks lf)) (74 + 2 * t) (oSheet (nI 0) p (a t))) := Fr.refl.up rfl
  exact ⟨rfl, rfl, Nat.le_refl _, hf.mono (fun k hk => by unfold FRS FS; omega), hf.get h0 (by omega), hK.fr hf (by omega) (by omega) (by omega), ⟨a, hA.wipe ht⟩, g, hf.get h43 (by omega)⟩
theorem k_WP_wipe_n (x : Int32) (w : ab_W) (n : Nat) {N : Nat → Nat} {R : Nat → Nat → Nat → Int64} {kn ks : Nat} {lf : Int32} (hx : badS N x) (h : KB w n kn ks lf N R) :
    ab_C X l i_WP_wipe [.ref 0, .int x] w n 0 0 (ab_q1 (some (.int (nI 0))) w n) := by
  obtain ⟨h0, hK, hS, g, h43⟩ := h
  obtain ⟨w, rfl⟩ := va_ex h0
  refine ab_metI cd_126 om_126 rfl (ab_sound ok_126 [] 80 ?_)
  (refine Exists.intro 0 ?_; refine ⟨0, _, Nat.zero_le _, Nat.zero_le _, k_sheetThatIs_n _ _ _ hx h0 hS, ?_⟩; refine ab_q1_elim ?_)
  exact ⟨rfl, rfl, rfl, rfl⟩
/-- what about() answers of a sheet that is -/
def abV (N : Nat) (R : Nat → Nat → Int64) (x : Int32) : Int32 := if x = nI 0 then nI N else if x = nI 1 then nI (phi N) else if x = nI 2 then nI (cnt (fresh (phi N) R) N) else if x = nI 3 then nI (maxN (often (phi N) R N) N) else if x = nI 4 then orNone (fst (fun k => !fresh (phi N) R k) N 0) N else -nI 1
theorem k_WP_about (x y : Int32) (t : Nat) (w : ab_W) (n : Nat) {N : Nat → Nat} {R : Nat → Nat → Nat → Int64} {kn ks : Nat} {lf : Int32} (hx : x = nI t) (ht : t < 8) (hN : N t ≠ 0) (h : KB w n kn ks lf N R) :
    ab_C X l i_WP_about [.ref 0, .int x, .int y] w n 0 0 (ab_q1 (some (.int (abV (N t) (R t) y))) w n) := by
  obtain ⟨h0, hK, hS, g, h43⟩ := h
  obtain ⟨a, hA, hM⟩ := hS.is ht hN
  obtain ⟨w, rfl⟩ := va_ex h0
  refine ab_metI cd_127 om_127 rfl (ab_sound ok_127 [48, 53, 58, 63, 68, 73] 80 ?_)
  (refine Exists.intro 0 ?_; refine ⟨0, _, Nat.zero_le _, Nat.zero_le _, k_sheetThatIs_y _ t _ _ hx ht hN h0 hS, ?_⟩; refine ab_q1_elim ?_)
  unfold abV
  refine And.intro (fun e => ?_) (fun e => ?_)
  · rw [if_pos e]
    refine ab_sound ok_127 [] 80 ?_
    refine Exists.intro _ (Exists.intro _ (And.intro (hA.1) (And.intro rfl ?_)))
    exact ⟨rfl, rfl, rfl⟩
  rw [if_neg e]
  refine And.intro (fun e => ?_) (fun e => ?_)
  · rw [if_pos e]
    refine ab_sound ok_127 [] 80 ?_
    refine Exists.intro _ (Exists.intro _ (And.intro (hA.1) (And.intro rfl ?_)))
    exact ⟨rfl, rfl, rfl⟩
  rw [if_neg e]
  refine And.intro (fun e => ?_) (fun e => ?_)
  · rw [if_pos e]
    refine ab_sound ok_127 [] 80 ?_
    refine And.intro (⟨_, hA.1⟩) ?_
    (refine Exists.intro 0 ?_; refine ⟨0, _, Nat.zero_le _, Nat.zero_le _, c_Sheet_unlike _ a (N t) _ _ hM.2 hA, ?_⟩; refine ab_q1_elim ?_)
    exact ⟨rfl, rfl, rfl⟩
  rw [if_neg e]
  refine And.intro (fun e => ?_) (fun e => ?_)
  · rw [if_pos e]
    refine ab_sound ok_127 [] 80 ?_
    refine And.intro (⟨_, hA.1⟩) ?_
    (refine Exists.intro 0 ?_; refine ⟨0, _, Nat.zero_le _, Nat.zero_le _, c_Sheet_mostOften _ a (N t) _ _ hM.2 hA, ?_⟩; refine ab_q1_elim ?_)
    exact ⟨rfl, rfl, rfl⟩
  rw [if_neg e]
  refine And.intro (fun e => ?_) (fun e => ?_)
  · rw [if_pos e]
    refine ab_sound ok_127 [] 80 ?_
    refine And.intro (⟨_, hA.1⟩) ?_
    (refine Exists.intro 0 ?_; refine ⟨0, _, Nat.zero_le _, Nat.zero_le _, c_Sheet_firstAgain _ a (N t) _ _ hM.2 hA, ?_⟩; refine ab_q1_elim ?_)
    exact ⟨rfl, rfl, rfl⟩
  rw [if_neg e]
  refine ab_sound ok_127 [] 80 ?_
  exact ⟨rfl, rfl, rfl⟩
theorem k_WP_about_n (x y : Int32) (w : ab_W) (n : Nat) {N : Nat → Nat} {R : Nat → Nat → Nat → Int64} {kn ks : Nat} {lf : Int32} (hx : badS N x) (h : KB w n kn ks lf N R) :
    ab_C X l i_WP_about [.ref 0, .int x, .int y] w n 0 0 (ab_q1 (some (.int (-nI 1))) w n) := by
  obtain ⟨h0, hK, hS, g, h43⟩ := h
  obtain ⟨w, rfl⟩ := va_ex h0
  refine ab_metI cd_127 om_127 rfl (ab_sound ok_127 [] 80 ?_)
  (refine Exists.intro 0 ?_; refine ⟨0, _, Nat.zero_le _, Nat.zero_le _, k_sheetThatIs_n _ _ _ hx h0 hS, ?_⟩; refine ab_q1_elim ?_)
  exact ⟨rfl, rfl, rfl⟩
theorem k_WP_point (x y z : Int32) (t k i : Nat) (w : ab_W) (n : Nat) {mc ms : Nat} {N : Nat → Nat} {R : Nat → Nat → Nat → Int64} {kn ks : Nat} {lf : Int32} (hx : x = nI t) (hy : y = nI k) (hz : z = nI i) (ht : t < 8) (hN : N t ≠ 0) (hk : k < N t) (hi : i < phi (N t)) (h : KB w n kn ks lf N R) :
    ab_Ev X l i_WP_point 0 (ab_en (ab_mx i_WP_point) [.ref 0, .int x, .int y, .int z]) [] w n mc ms (ab_q1 (some (.long (R t k i))) w n) := by
  subst hy hz
  obtain ⟨h0, hK, hS, g, h43⟩ := h
  obtain ⟨a, hA, hM⟩ := hS.is ht hN
  have := phi_le _ hM.2
  obtain ⟨w, rfl⟩ := va_ex h0
  refine ab_sound ok_145 [] 80 ?_
  (refine Exists.intro 0 ?_; refine ⟨0, _, Nat.zero_le _, Nat.zero_le _, k_sheetThatIs_y _ t _ _ hx ht hN h0 hS, ?_⟩; refine ab_q1_elim ?_)
  refine And.intro (fun h_9 => absurd h_9 (nI_pos (by omega))) (fun _ => ?_)
  refine Exists.intro _ (Exists.intro _ (And.intro (hA.1) (And.intro rfl ?_)))
  refine And.intro (fun h_9 => absurd h_9 (nI_ge hk (by omega))) (fun _ => ?_)
  refine And.intro (fun h_9 => absurd h_9 (nI_pos (by omega))) (fun _ => ?_)
  refine Exists.intro _ (Exists.intro _ (And.intro (hA.1) (And.intro rfl ?_)))
  refine And.intro (fun _ => ?_) (fun h_9 => absurd (nI_lt hi (by omega)) h_9)
  refine And.intro (⟨_, hA.1⟩) ?_
  (refine Exists.intro 0 ?_; refine ⟨0, _, Nat.zero_le _, Nat.zero_le _, c_number _ _ _ a (N t) k i _ _ rfl rfl hM.2 hk hi hA, ?_⟩; refine ab_q1_elim ?_)
  exact ⟨rfl, rfl, rfl⟩
theorem k_WP_point_n (x y z : Int32) (w : ab_W) (n : Nat) {N : Nat → Nat} {R : Nat → Nat → Nat → Int64} {kn ks : Nat} {lf : Int32} (hx : badS N x ∨ ∃ t, t < 8 ∧ x = nI t ∧ N t ≠ 0 ∧ ((y < 0 ∨ nI (N t) ≤ y) ∨ (z < 0 ∨ nI (phi (N t)) ≤ z))) (h : KB w n kn ks lf N R) :
    ab_Ev X l i_WP_point 0 (ab_en (ab_mx i_WP_point) [.ref 0, .int x, .int y, .int z]) [] w n 1 6 (ab_q1 (some (.retAddr 7777)) w n) := by
  obtain ⟨h0, hK, hS, g, h43⟩ := h
  obtain ⟨w, rfl⟩ := va_ex h0
  refine ab_sound ok_145 [] 80 ?_
  rcases hx with hx | ⟨t, ht, hx, hN, hc⟩
  · (refine Exists.intro 0 ?_; refine ⟨0, _, Nat.zero_le _, Nat.zero_le _, k_sheetThatIs_n _ _ _ hx h0 hS, ?_⟩; refine ab_q1_elim ?_)
    exact ⟨⟨by omega, by omega⟩, rfl, rfl, rfl⟩
  · obtain ⟨a, hA, hM⟩ := hS.is ht hN
    have hp := phi_le _ hM.2
    (refine Exists.intro 0 ?_; refine ⟨0, _, Nat.zero_le _, Nat.zero_le _, k_sheetThatIs_y _ t _ _ hx ht hN h0 hS, ?_⟩; refine ab_q1_elim ?_)
    refine And.intro (fun e => ?_) (fun e => ?_)
    · exact ⟨⟨by omega, by omega⟩, rfl, rfl, rfl⟩
    refine Exists.intro _ (Exists.intro _ (And.intro (hA.1) (And.intro rfl ?_)))
    refine And.intro (fun e1 => ?_) (fun e1 => ?_)
    · exact ⟨⟨by omega, by omega⟩, rfl, rfl, rfl⟩
    refine And.intro (fun e2 => ?_) (fun e2 => ?_)
    · exact ⟨⟨by omega, by omega⟩, rfl, rfl, rfl⟩
    refine Exists.intro _ (Exists.intro _ (And.intro (hA.1) (And.intro rfl ?_)))
    refine And.intro (fun e3 => ?_) (fun e3 => ?_)
    · rcases hc with hc | hc
      · exact absurd hc (fun z => z.elim e e1)
      · rcases hc with hc | hc
        · exact absurd hc e2
        · rw [i32_lt] at e3
          rw [i32_le] at hc
          omega
    · exact ⟨⟨by omega, by omega⟩, rfl, rfl, rfl⟩
/-- how many points two sheets share -/
def shV (N : Nat) (R S : Nat → Nat → Int64) : Nat := cnt (fun k => fresh (phi N) R k && decide (∃ j, j < N ∧ lkB (phi N) (S j) (R k) = true)) N
theorem k_WP_shared (x y : Int32) (u v : Nat) (w : ab_W) (n : Nat) {N : Nat → Nat} {R : Nat → Nat → Nat → Int64} {kn ks : Nat} {lf : Int32} (hx : x = nI u) (hy : y = nI v) (hu : u < 8) (hv : v < 8) (hN0 : N u ≠ 0) (hNv : N v = N u) (h : KB w n kn ks lf N R) :
    ab_C X l i_WP_shared [.ref 0, .int x, .int y] w n 0 0 (ab_q1 (some (.int (nI (shV (N u) (R u) (R v))))) w n) := by
  subst hx hy
  obtain ⟨h0, hK, hS, g, h43⟩ := h
  obtain ⟨aa, hA, hM⟩ := hS.is hu hN0
  obtain ⟨bb, hB, -⟩ := hS.is hv (by omega)
  rw [hNv] at hB
  generalize hMe : N u = M at *
  obtain ⟨w, rfl⟩ := va_ex h0
  refine ab_metI cd_134 om_134 rfl (ab_sound ok_134 [43] 80 ?_)
  (refine Exists.intro 0 ?_; refine ⟨0, _, Nat.zero_le _, Nat.zero_le _, k_sheetThatIs_y _ u _ _ rfl hu (by omega) h0 hS, ?_⟩; refine ab_q1_elim ?_)
  (refine Exists.intro 0 ?_; refine ⟨0, _, Nat.zero_le _, Nat.zero_le _, k_sheetThatIs_y _ v _ _ rfl hv (by omega) h0 hS, ?_⟩; refine ab_q1_elim ?_)
  refine Exists.intro _ (Exists.intro _ (And.intro (hA.1) (And.intro rfl ?_)))
  refine Exists.intro _ (Exists.intro _ (And.intro (hB.1) (And.intro rfl ?_)))
  refine And.intro (fun _ => ?_) (fun h_9 => absurd (rfl) h_9)
  have loop : ∀ k, k ≤ M → ab_Ev X l i_WP_shared 43 [some (.ref 0), some (.int (nI u)), some (.int (nI v)), some (.ref (74 + 2 * u)), some (.ref (74 + 2 * v)), some (.int (nI (cnt (fun k => fresh (phi M) (R u) k && decide (∃ j, j < M ∧ lkB (phi M) (R v j) (R u k) = true)) k))), some (.int (nI k))] [] (va_up w 0 (oWP kn ks lf)) n 0 0 (ab_q1 (some (.int (nI (shV M (R u) (R v))))) (va_up w 0 (oWP kn ks lf)) n) := by
    refine ab_up M ?_ (fun k hk ih => ?_)
    · refine ab_sound ok_134 [43] 80 ?_
      refine Exists.intro _ (Exists.intro _ (And.intro (hA.1) (And.intro rfl ?_)))
      refine And.intro (fun _ => ?_) (fun h_9 => absurd (nI_le (Nat.le_refl _) (by omega)) h_9)
      exact ⟨rfl, rfl, rfl⟩
    · obtain ⟨f1, f2⟩ := fst_fresh (phi M) M (R u) hk
      refine ab_sound ok_134 [43, 79] 80 ?_
      refine Exists.intro _ (Exists.intro _ (And.intro (hA.1) (And.intro rfl ?_)))
      refine And.intro (fun h_9 => absurd h_9 (nI_ge hk (by omega))) (fun _ => ?_)
      refine And.intro (⟨_, hA.1⟩) ?_
      (refine Exists.intro 0 ?_; refine ⟨0, _, Nat.zero_le _, Nat.zero_le _, c_Sheet_firstLike _ _ aa _ aa M k _ _ rfl hM.2 hk hA hA, ?_⟩; refine ab_q1_elim ?_)
      rw [show orNone (fst (fun i => lkB (phi M) (R u i) (R u k)) M 0) M = nI (fst (fun i => lkB (phi M) (R u i) (R u k)) M 0) by unfold orNone; rw [if_pos (by omega)]]
      have hu9 : cnt (fun k => fresh (phi M) (R u) k && decide (∃ j, j < M ∧ lkB (phi M) (R v j) (R u k) = true)) (k + 1) = cnt (fun k => fresh (phi M) (R u) k && decide (∃ j, j < M ∧ lkB (phi M) (R v j) (R u k) = true)) k + (if (fresh (phi M) (R u) k && decide (∃ j, j < M ∧ lkB (phi M) (R v j) (R u k) = true)) = true then 1 else 0) := rfl
      rw [hu9] at ih
      have fin : ∀ c : Nat, nI (cnt (fun k => fresh (phi M) (R u) k && decide (∃ j, j < M ∧ lkB (phi M) (R v j) (R u k) = true)) k + (if (fresh (phi M) (R u) k && decide (∃ j, j < M ∧ lkB (phi M) (R v j) (R u k) = true)) = true then 1 else 0)) = nI c → ab_Ev X l i_WP_shared 79 [some (.ref 0), some (.int (nI u)), some (.int (nI v)), some (.ref (74 + 2 * u)), some (.ref (74 + 2 * v)), some (.int (nI c)), some (.int (nI k))] [] (va_up w 0 (oWP kn ks lf)) n 0 0 (ab_q1 (some (.int (nI (shV M (R u) (R v))))) (va_up w 0 (oWP kn ks lf)) n) := by
        intro c hc
        refine ab_sound ok_134 [43] 80 ?_
        exact ab_ev_of ih (by rw [nI_s k, hc]; rfl) rfl rfl
      by_cases hc : fresh (phi M) (R u) k = true
      · refine And.intro (fun h_9 => absurd h_9 ((fun q => q (by rw [f1.mpr hc])))) (fun _ => ?_)
        refine And.intro (⟨_, hB.1⟩) ?_
        (refine Exists.intro 0 ?_; refine ⟨0, _, Nat.zero_le _, Nat.zero_le _, c_Sheet_firstLike _ _ bb _ aa M k _ _ rfl hM.2 hk hB hA, ?_⟩; refine ab_q1_elim ?_)
        obtain ⟨g1, g2, g3, g4⟩ := fst_spec (fun i => lkB (phi M) (R v i) (R u k)) M 0
        generalize hq : fst (fun i => lkB (phi M) (R v i) (R u k)) M 0 = q at *
        by_cases hd : q < M
        · rw [show orNone q M = nI q by unfold orNone; rw [if_pos hd]]
          refine And.intro (fun h_9 => absurd h_9 ((fun z => nI_pos (n := q) (by omega) (by rw [z]; decide)))) (fun _ => ?_)
          refine ab_ev_of (fin (cnt (fun k => fresh (phi M) (R u) k && decide (∃ j, j < M ∧ lkB (phi M) (R v j) (R u k) = true)) k + 1) ?_) (by rw [nI_s (cnt _ k)]; rfl) rfl rfl
          rw [if_pos]
          rw [hc, Bool.true_and]
          exact decide_eq_true ⟨q, hd, g4 (by omega)⟩
        · rw [show orNone q M = -nI 1 by unfold orNone; rw [if_neg hd]]
          refine And.intro (fun _ => ?_) (fun h_9 => absurd (rfl) h_9)
          refine fin _ ?_
          rw [if_neg, Nat.add_zero]
          rw [hc, Bool.true_and, decide_eq_true_iff]
          rintro ⟨j, hj, hl⟩
          rw [g1 j (by omega) (by omega)] at hl
          cases hl
      · refine And.intro (fun _ => ?_) (fun h_9 => absurd h_9 ((fun q => hc (f1.mp ((nI_eq (by omega) (by omega)).mp q)))))
        refine fin _ ?_
        rw [if_neg, Nat.add_zero]
        rw [Bool.not_eq_true] at hc
        rw [hc, Bool.false_and]
        exact Bool.false_ne_true
  exact loop 0 (by omega)
theorem k_WP_shared_n (x y : Int32) (w : ab_W) (n : Nat) {N : Nat → Nat} {R : Nat → Nat → Nat → Int64} {kn ks : Nat} {lf : Int32} (h : KB w n kn ks lf N R) (hb : badS N x ∨ badS N y ∨ ∃ u v, u < 8 ∧ v < 8 ∧ x = nI u ∧ y = nI v ∧ N u ≠ 0 ∧ N v ≠ 0 ∧ N u ≠ N v) :
    ab_C X l i_WP_shared [.ref 0, .int x, .int y] w n 0 0 (ab_q1 (some (.int (-nI 2))) w n) := by
  obtain ⟨h0, hK, hS, -⟩ := h
  obtain ⟨w, rfl⟩ := va_ex h0
  refine ab_metI cd_134 om_134 rfl (ab_sound ok_134 [43] 80 ?_)
  rcases sh_or N x with ⟨u, hu, hy, hNu⟩ | hy
  · (refine Exists.intro 0 ?_; refine ⟨0, _, Nat.zero_le _, Nat.zero_le _, k_sheetThatIs_y _ u _ _ hy hu hNu h0 hS, ?_⟩; refine ab_q1_elim ?_)
    obtain ⟨aa, hA, hM⟩ := hS.is hu hNu
    rcases sh_or N y with ⟨v, hv, hz, hNv⟩ | hz
    · (refine Exists.intro 0 ?_; refine ⟨0, _, Nat.zero_le _, Nat.zero_le _, k_sheetThatIs_y _ v _ _ hz hv hNv h0 hS, ?_⟩; refine ab_q1_elim ?_)
      obtain ⟨bb, hB, hM2⟩ := hS.is hv hNv
      refine Exists.intro _ (Exists.intro _ (And.intro (hA.1) (And.intro rfl ?_)))
      refine Exists.intro _ (Exists.intro _ (And.intro (hB.1) (And.intro rfl ?_)))
      have hne : N u ≠ N v := by
        rcases hb with h1 | h1 | ⟨u', v', a1, a2, a3, a4, a5, a6, a7⟩
        · rcases h1 with h1 | ⟨t', b1, b2, b3⟩
          · exact absurd hy (n_out (by omega) hu h1)
          · have := (nI_eq (by omega) (by omega)).mp (hy.symm.trans b2)
            subst this
            exact absurd b3 hNu
        · rcases h1 with h1 | ⟨t', b1, b2, b3⟩
          · exact absurd hz (n_out (by omega) hv h1)
          · have := (nI_eq (by omega) (by omega)).mp (hz.symm.trans b2)
            subst this
            exact absurd b3 hNv
        · have e1 := (nI_eq (by omega) (by omega)).mp (hy.symm.trans a3)
          have e2 := (nI_eq (by omega) (by omega)).mp (hz.symm.trans a4)
          subst e1 e2
          exact a7
      refine And.intro (fun h_9 => absurd h_9 ((fun q => hne ((nI_eq (by omega) (by omega)).mp q)))) (fun _ => ?_)
      exact ⟨rfl, rfl, rfl⟩
    · (refine Exists.intro 0 ?_; refine ⟨0, _, Nat.zero_le _, Nat.zero_le _, k_sheetThatIs_n _ _ _ hz h0 hS, ?_⟩; refine ab_q1_elim ?_)
      exact ⟨rfl, rfl, rfl⟩
  · (refine Exists.intro 0 ?_; refine ⟨0, _, Nat.zero_le _, Nat.zero_le _, k_sheetThatIs_n _ _ _ hy h0 hS, ?_⟩; refine ab_q1_elim ?_)
    rcases sh_or N y with ⟨v, hv, hz, hNv⟩ | hz
    · (refine Exists.intro 0 ?_; refine ⟨0, _, Nat.zero_le _, Nat.zero_le _, k_sheetThatIs_y _ v _ _ hz hv hNv h0 hS, ?_⟩; refine ab_q1_elim ?_)
      exact ⟨rfl, rfl, rfl⟩
    · (refine Exists.intro 0 ?_; refine ⟨0, _, Nat.zero_le _, Nat.zero_le _, k_sheetThatIs_n _ _ _ hz h0 hS, ?_⟩; refine ab_q1_elim ?_)
      exact ⟨rfl, rfl, rfl⟩
end API2
