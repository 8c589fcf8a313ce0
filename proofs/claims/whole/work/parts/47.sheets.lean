section SHEETS
variable {X : ab_X} {l : Launch}
theorem ShIs.fr {F : Nat → Prop} {w w' : ab_W} {q N a : Nat} {R : Nat → Nat → Int64} (h : ShIs w q N a R) (hf : Fr F w w') (hq : ¬ F q) (ha : ¬ F a) : ShIs w' q N a R := by
  obtain ⟨h0, ⟨f, h1, h2⟩, h3⟩ := h
  exact ⟨hf.get h0 hq, ⟨f, hf.get h1 ha, h2⟩, h3⟩
def NOk (N : Nat → Nat) : Prop := ∀ t, t < 8 → N t = 0 ∨ (3 ≤ N t ∧ N t ≤ 60)
/-- where sheet t is; 8 is the drawing -/
def qp (t : Nat) : Nat := if t < 8 then 74 + 2 * t else 41
def FS (k : Nat) : Prop := k = 41 ∨ k = 42 ∨ (74 ≤ k ∧ k < 90) ∨ 135 ≤ k
/-- the sheets, their numbers at the places a -/
def KShA (w : ab_W) (n : Nat) (N : Nat → Nat) (R : Nat → Nat → Nat → Int64) (a : Nat → Nat) : Prop :=
  135 ≤ n ∧ (∃ g : Nat → Option Nat, w 40 = .inl (3, 8, .inr (.inr (.inr (.inr g)))) ∧ ∀ t, t < 8 → g t = some (74 + 2 * t)) ∧ NOk N ∧
  (∀ t, t < 9 → a t < n ∧ (a t = qp t + 1 ∨ 135 ≤ a t)) ∧ (∀ t u, t < 9 → u < 9 → t ≠ u → a t ≠ a u) ∧
  ∀ t, t < 9 → (∃ v p, w (qp t) = oSheet v p (a t) ∧ (t < 8 → v = nI (N t))) ∧ (∃ f, w (a t) = aI 3480 f ∨ (w (a t) = aI 0 f ∧ (t < 8 → N t = 0))) ∧ (t < 8 → N t ≠ 0 → ShIs w (qp t) (N t) (a t) (R t))
def KSh (w : ab_W) (n : Nat) (N : Nat → Nat) (R : Nat → Nat → Nat → Int64) : Prop := ∃ a, KShA w n N R a
theorem qp_lt {t : Nat} (h : t < 8) : qp t = 74 + 2 * t := by unfold qp; rw [if_pos h]
theorem qp_FS {t : Nat} (h : t < 9) : FS (qp t) ∧ qp t < 90 := by
  unfold qp FS
  split <;> omega
theorem KShA.fr {F : Nat → Prop} {w w' : ab_W} {n n' : Nat} {N : Nat → Nat} {R : Nat → Nat → Nat → Int64} {a : Nat → Nat} (h : KShA w n N R a) (hf : Fr F w w') (hF : ∀ k, F k → k ≠ 40 ∧ ¬ FS k) (hn : n ≤ n') : KShA w' n' N R a := by
  obtain ⟨h0, ⟨g, h1, h2⟩, h3, h4, h5, h6⟩ := h
  have hq : ∀ t, t < 9 → ¬ F (qp t) := fun t ht z => (hF _ z).2 (qp_FS ht).1
  have ha : ∀ t, t < 9 → ¬ F (a t) := fun t ht z => by
    have := (hF _ z).2
    have h9 := (h4 t ht).2
    unfold FS at this
    unfold qp at h9
    split at h9 <;> omega
  refine ⟨by omega, ⟨g, hf.get h1 (fun z => (hF _ z).1 rfl), h2⟩, h3, fun t ht => ⟨by have := (h4 t ht).1; omega, (h4 t ht).2⟩, h5, fun t ht => ?_⟩
  obtain ⟨⟨v, p, k1, k2⟩, ⟨f, k3⟩, k4⟩ := h6 t ht
  exact ⟨⟨v, p, hf.get k1 (hq t ht), k2⟩, ⟨f, k3.imp (fun z => hf.get z (ha t ht)) (fun z => ⟨hf.get z.1 (ha t ht), z.2⟩)⟩, fun g1 g2 => (k4 g1 g2).fr hf (hq t ht) (ha t ht)⟩
theorem KSh.fr {F : Nat → Prop} {w w' : ab_W} {n n' : Nat} {N : Nat → Nat} {R : Nat → Nat → Nat → Int64} (h : KSh w n N R) (hf : Fr F w w') (hF : ∀ k, F k → k ≠ 40 ∧ ¬ FS k) (hn : n ≤ n') : KSh w' n' N R := by
  obtain ⟨a, h⟩ := h
  exact ⟨a, h.fr hf hF hn⟩
theorem KSh.is {w : ab_W} {n : Nat} {N : Nat → Nat} {R : Nat → Nat → Nat → Int64} (h : KSh w n N R) {t : Nat} (ht : t < 8) (h0 : N t ≠ 0) : ∃ a, ShIs w (74 + 2 * t) (N t) a (R t) ∧ (3 ≤ N t ∧ N t ≤ 60) := by
  obtain ⟨a, -, -, h3, -, -, h6⟩ := h
  have := (h6 t (by omega)).2.2 ht h0
  rw [qp_lt ht] at this
  exact ⟨a t, this, (h3 t ht).resolve_left h0⟩
/-- a sheet has been filled -/
theorem KShA.put {w w' : ab_W} {n n' : Nat} {N : Nat → Nat} {R : Nat → Nat → Nat → Int64} {a : Nat → Nat} (h : KShA w n N R a) {t M b : Nat} {V : Nat → Nat → Int64} (ht : t < 9) (hM : 3 ≤ M ∧ M ≤ 60) (hb : (b = a t ∧ n' = n) ∨ (b = n ∧ n' = n + 1)) (hf : Fr (fun k => k = qp t ∨ k = b) w w') (hS : ShIs w' (qp t) M b V) : KShA w' n' (va_up N t M) (va_up R t V) (va_up a t b) ∧ Fr FS w w' := by
  obtain ⟨h0, ⟨g, h1, h2⟩, h3, h4, h5, h6⟩ := h
  have hb4 : ∀ u, u < 9 → u ≠ t → a u ≠ b := by
    intro u hu hut z
    rcases hb with ⟨e, -⟩ | ⟨e, -⟩
    · exact h5 u t hu ht hut (z.trans e)
    · have := (h4 u hu).1
      omega
  have hbF : FS b := by
    have h9 := (h4 t ht).2
    unfold FS
    unfold qp at h9
    split at h9 <;> omega
  have hqb : ∀ u, u < 9 → qp u ≠ b := by
    intro u hu z
    have h9 := (h4 t ht).2
    have h10 := (qp_FS hu).2
    unfold qp at h9 z h10
    rcases hb with ⟨e, -⟩ | ⟨e, -⟩ <;> (split at h9 <;> split at z <;> split at h10 <;> omega)
  have hqq : ∀ u, u < 9 → u ≠ t → qp u ≠ qp t := by
    intro u hu hut z
    unfold qp at z
    split at z <;> split at z <;> omega
  have hqa : ∀ u, u < 9 → qp t ≠ a u := by
    intro u hu z
    have h9 := (h4 u hu).2
    unfold qp at h9 z
    split at h9 <;> split at z <;> omega
  refine ⟨⟨by omega, ⟨g, hf.get h1 ?_, h2⟩, ?_, ?_, ?_, ?_⟩, hf.mono ?_⟩
  · have h9 := (qp_FS ht).1
    unfold FS at h9 hbF
    omega
  · intro u hu
    by_cases e : u = t
    · subst e; rw [va_us]; omega
    · rw [va_un e]; exact h3 u hu
  · intro u hu
    by_cases e : u = t
    · subst e
      rw [va_us]
      have := h4 u hu
      omega
    · rw [va_un e]
      have := h4 u hu
      omega
  · intro u v hu hv huv
    by_cases e : u = t
    · subst e
      rw [va_us, va_un (fun z => huv z.symm)]
      exact fun z => hb4 v hv (fun z => huv z.symm) z.symm
    · rw [va_un e]
      by_cases e2 : v = t
      · subst e2
        rw [va_us]
        exact hb4 u hu e
      · rw [va_un e2]
        exact h5 u v hu hv huv
  · intro u hu
    by_cases e : u = t
    · subst e
      rw [va_us, va_us, va_us]
      obtain ⟨k0, ⟨f, k1, k2⟩, k3⟩ := hS
      exact ⟨⟨_, _, k0, fun _ => rfl⟩, ⟨f, Or.inl k1⟩, fun _ _ => ⟨k0, ⟨f, k1, k2⟩, k3⟩⟩
    · rw [va_un e, va_un e, va_un e]
      obtain ⟨⟨v, p, k1, k2⟩, ⟨f, k3⟩, k4⟩ := h6 u hu
      have g1 : ¬ (qp u = qp t ∨ qp u = b) := fun z => z.elim (hqq u hu e) (hqb u hu)
      have g2 : ¬ (a u = qp t ∨ a u = b) := fun z => z.elim (fun z => hqa u hu z.symm) (hb4 u hu e)
      exact ⟨⟨v, p, hf.get k1 g1, k2⟩, ⟨f, k3.imp (fun z => hf.get z g2) (fun z => ⟨hf.get z.1 g2, z.2⟩)⟩, fun x1 x2 => (k4 x1 x2).fr hf g1 g2⟩
  · intro k hk
    rcases hk with e | e
    · rw [e]; exact (qp_FS ht).1
    · rw [e]; exact hbF
/-- rows of p numbers each, one after the other -/
def Rw (M : Nat) (g : Nat → Int64) (V : Nat → Nat → Int64) : Prop := ∀ k i, k < M → i < phi M → g (k * phi M + i) = V k i
def Sm (M : Nat) (V : Nat → Nat → Int64) : Prop := ∀ k i, k < M → i < phi M → (V k i).toInt32.toInt64 = V k i
theorem flF_lt {m j : Nat} {g : Nat → Int64} {f : Nat → Int32} (h : j < m) : flF m g f j = (g j).toInt32 := by
  unfold flF
  rw [if_pos h]
theorem k_fill (x z : Int32) (t M : Nat) (w : ab_W) (n : Nat) {N : Nat → Nat} {R : Nat → Nat → Nat → Int64} {g : Nat → Int64} {V : Nat → Nat → Int64} (ht : t < 9) (hx : x = nI M) (hz : z = nI (phi M)) (hM : 3 ≤ M ∧ M ≤ 60) (h : KSh w n N R) (h43 : w 43 = aJ 3480 g) (hg : Rw M g V) (hV : Sm M V) : ab_C X l i_Sheet_fill [.ref (qp t), .int x, .int z, .ref 43] w n 1 3480 (qV fun w' n' => n ≤ n' ∧ Fr FS w w' ∧ KSh w' n' (va_up N t M) (va_up R t V) ∧ ∃ b, ShIs w' (qp t) M b V) := by
  subst hx hz
  obtain ⟨a, hA⟩ := h
  have hA2 := hA
  obtain ⟨h0, -, h3, h4, h5, h6⟩ := hA2
  obtain ⟨⟨v, p, k1, -⟩, ⟨f, k3⟩, -⟩ := h6 t ht
  have hp := phi_le M hM.2
  have h9 := (h4 t ht).2
  have hq9 := qp_FS ht
  have hsm : ∀ k i, k < M → i < phi M → k * phi M + i < M * phi M := by
    intro k i hk hi
    have h1 : (k + 1) * phi M ≤ M * phi M := Nat.mul_le_mul_right _ (by omega)
    rw [Nat.add_mul] at h1
    omega
  have hq43 : qp t ≠ 43 := fun z => by have := hq9.1; unfold FS at this; omega
  rcases k3 with k3 | ⟨k3, -⟩
  · have hqa : qp t ≠ a t := fun z => by
      unfold qp at h9 z
      split at h9 <;> split at z <;> omega
    have ha43 : a t ≠ 43 := fun z => by
      unfold qp at h9
      split at h9 <;> omega
    refine ab_C.weaken (c_Sheet_fill_old (qp t) (a t) M (phi M) w n hM.2 hp hqa hq43 ha43 k1 k3 h43) ?_
    rintro _ _ n' ⟨rfl, rfl, hn⟩
    subst hn
    have hS : ShIs (va_up (va_up w (qp t) (oSheet (nI M) (nI (phi M)) (a t))) (a t) (aI 3480 (flF (M * phi M) g f))) (qp t) M (a t) V := by
      refine ⟨(va_un hqa).trans va_us, ⟨_, va_us, fun k i hk hi => ?_⟩, ?_⟩
      · rw [flF_lt (hsm k i hk hi), hg k i hk hi, hV k i hk hi]
      · unfold shOk qp
        unfold qp at h9 hqa
        split at h9 <;> split at hqa <;> split <;> omega
    obtain ⟨k8, k9⟩ := hA.put (w' := _) (n' := n') ht hM (Or.inl ⟨rfl, rfl⟩) ((Fr.refl.up (Or.inl rfl)).up (Or.inr rfl)) hS
    exact ⟨rfl, Nat.le_refl _, k9, ⟨_, k8⟩, _, hS⟩
  · have hqn : qp t ≠ n := by omega
    refine ab_C.weaken (c_Sheet_fill_new (qp t) (a t) M (phi M) w n hM.2 hp hqn hq43 (by omega) k1 k3 h43) ?_
    rintro _ _ _ ⟨rfl, rfl, rfl⟩
    have hS : ShIs (va_up (va_up w (qp t) (oSheet (nI M) (nI (phi M)) n)) n (aI 3480 (flF (M * phi M) g (fun _ => 0)))) (qp t) M n V := by
      refine ⟨(va_un hqn).trans va_us, ⟨_, va_us, fun k i hk hi => ?_⟩, ?_⟩
      · rw [flF_lt (hsm k i hk hi), hg k i hk hi, hV k i hk hi]
      · unfold shOk qp
        unfold qp at hqn
        split at hqn <;> split <;> omega
    obtain ⟨k8, k9⟩ := hA.put (w' := _) (n' := n + 1) ht hM (Or.inr ⟨rfl, rfl⟩) ((Fr.refl.up (Or.inl rfl)).up (Or.inr rfl)) hS
    exact ⟨rfl, by omega, k9, ⟨_, k8⟩, _, hS⟩
theorem c_WP_isSheet_y (x : Int32) (t : Nat) (w : ab_W) (n : Nat) (hx : x = nI t) (ht : t < 8) : ab_C X l i_WP_isSheet [.int x] w n 0 0 (ab_q1 (some (.int (nI 1))) w n) := by
  subst hx
  refine ab_metI cd_117 om_117 rfl (ab_sound ok_117 [] 50 ?_)
  refine And.intro (fun h_9 => absurd h_9 (nI_pos (by omega))) (fun _ => ?_)
  refine And.intro (fun h_9 => absurd h_9 (nI_ge ht (by omega))) (fun _ => ?_)
  exact ⟨rfl, rfl, rfl, rfl⟩
theorem c_WP_isSheet_n (x : Int32) (w : ab_W) (n : Nat) (hx : x < 0 ∨ nI 8 ≤ x) : ab_C X l i_WP_isSheet [.int x] w n 0 0 (ab_q1 (some (.int (nI 0))) w n) := by
  refine ab_metI cd_117 om_117 rfl (ab_sound ok_117 [] 50 ?_)
  refine And.intro (fun h => ?_) (fun h => ?_)
  · exact ⟨rfl, rfl, rfl, rfl⟩
  · refine And.intro (fun _ => ?_) (fun h_9 => absurd (hx.resolve_left h) h_9)
    exact ⟨rfl, rfl, rfl, rfl⟩
theorem c_Mod_isSheet_y (x : Int32) (t : Nat) (w : ab_W) (n : Nat) (hx : x = nI t) (ht : t < 8) : ab_C X l i_Mod_isSheet [.int x] w n 0 0 (ab_q1 (some (.int (nI 1))) w n) := by
  subst hx
  refine ab_metI cd_193 om_193 rfl (ab_sound ok_193 [] 50 ?_)
  refine And.intro (fun h_9 => absurd h_9 (nI_pos (by omega))) (fun _ => ?_)
  refine And.intro (fun h_9 => absurd h_9 (nI_ge ht (by omega))) (fun _ => ?_)
  exact ⟨rfl, rfl, rfl, rfl⟩
theorem c_Mod_isSheet_n (x : Int32) (w : ab_W) (n : Nat) (hx : x < 0 ∨ nI 8 ≤ x) : ab_C X l i_Mod_isSheet [.int x] w n 0 0 (ab_q1 (some (.int (nI 0))) w n) := by
  refine ab_metI cd_193 om_193 rfl (ab_sound ok_193 [] 50 ?_)
  refine And.intro (fun h => ?_) (fun h => ?_)
  · exact ⟨rfl, rfl, rfl, rfl⟩
  · refine And.intro (fun _ => ?_) (fun h_9 => absurd (hx.resolve_left h) h_9)
    exact ⟨rfl, rfl, rfl, rfl⟩
theorem c_Mod_at (x z : Int32) (t k : Nat) (w : ab_W) (n : Nat) (hx : x = nI t) (hz : z = nI k) : ab_C X l i_Mod_at [.int x, .int z] w n 0 0 (ab_q1 (some (.int (nI (3600 * t + 60 * k)))) w n) := by
  subst hx hz
  refine ab_metI cd_212 om_212 rfl (ab_sound ok_212 [] 50 ?_)
  exact ⟨by rw [← nI_add, ← pk_mul, ← pk_mul], rfl, rfl⟩
/-- the sheet of that number, or none -/
theorem k_sheetThatIs_y (x : Int32) (t : Nat) (w : ab_W) (n : Nat) {N : Nat → Nat} {R : Nat → Nat → Nat → Int64} {kn ks : Nat} {lf : Int32} (hx : x = nI t) (ht : t < 8) (hN : N t ≠ 0) (h0 : w 0 = oWP kn ks lf) (h : KSh w n N R) : ab_C X l i_WP_sheetThatIs [.ref 0, .int x] w n 0 0 (ab_q1 (some (.ref (74 + 2 * t))) w n) := by
  subst hx
  obtain ⟨a, hS, hR⟩ := h.is ht hN
  obtain ⟨b, -, ⟨g, h1, h2⟩, -⟩ := h
  obtain ⟨w, rfl⟩ := va_ex2 h0 h1
  refine ab_metR cd_124 om_124 rfl rfl (ab_sound ok_124 [] 50 ?_)
  (refine Exists.intro 0 ?_; refine ⟨0, _, Nat.zero_le _, Nat.zero_le _, c_WP_isSheet_y _ t _ _ rfl ht, ?_⟩; rintro _ _ _ ⟨rfl, rfl, rfl⟩)
  refine And.intro (fun _ => ?_) (fun h_9 => absurd h_9 ((by decide)))
  refine And.intro (vp_in_nI ht (by omega)) ?_
  intro z hz
  rw [nI_clamp (by omega), h2 t ht] at hz
  subst hz
  refine Exists.intro _ (Exists.intro _ (And.intro (hS.1) (And.intro rfl ?_)))
  refine And.intro (fun _ => ?_) (fun h_9 => absurd h_9 ((fun z => by have := (nI_eq (a := N t) (b := 0) (by omega) (by omega)).mp z; omega)))
  exact ⟨rfl, rfl, rfl⟩
theorem k_sheetThatIs_n (x : Int32) (w : ab_W) (n : Nat) {N : Nat → Nat} {R : Nat → Nat → Nat → Int64} {kn ks : Nat} {lf : Int32} (hx : (x < 0 ∨ nI 8 ≤ x) ∨ ∃ t, t < 8 ∧ x = nI t ∧ N t = 0) (h0 : w 0 = oWP kn ks lf) (h : KSh w n N R) : ab_C X l i_WP_sheetThatIs [.ref 0, .int x] w n 0 0 (ab_q1 (some .null) w n) := by
  obtain ⟨b, -, ⟨g, h1, h2⟩, -, -, -, h6⟩ := h
  obtain ⟨w, rfl⟩ := va_ex2 h0 h1
  refine ab_metN cd_124 om_124 rfl rfl (ab_sound ok_124 [] 50 ?_)
  rcases hx with hx | ⟨t, ht, hx, hN⟩
  · (refine Exists.intro 0 ?_; refine ⟨0, _, Nat.zero_le _, Nat.zero_le _, c_WP_isSheet_n _ _ _ hx, ?_⟩; rintro _ _ _ ⟨rfl, rfl, rfl⟩)
    refine And.intro (fun h_9 => absurd ((by rfl)) h_9) (fun _ => ?_)
    exact ⟨rfl, rfl, rfl⟩
  · subst hx
    obtain ⟨⟨v, p, k1, k2⟩, -⟩ := h6 t (by omega)
    rw [k2 ht, hN, qp_lt ht] at k1
    (refine Exists.intro 0 ?_; refine ⟨0, _, Nat.zero_le _, Nat.zero_le _, c_WP_isSheet_y _ t _ _ rfl ht, ?_⟩; rintro _ _ _ ⟨rfl, rfl, rfl⟩)
    refine And.intro (fun _ => ?_) (fun h_9 => absurd h_9 ((by decide)))
    refine And.intro (vp_in_nI ht (by omega)) ?_
    intro z hz
    rw [nI_clamp (by omega), h2 t ht] at hz
    subst hz
    refine Exists.intro _ (Exists.intro _ (And.intro (k1) (And.intro rfl ?_)))
    refine And.intro (fun h_9 => absurd ((by rfl)) h_9) (fun _ => ?_)
    exact ⟨rfl, rfl, rfl⟩
end SHEETS
