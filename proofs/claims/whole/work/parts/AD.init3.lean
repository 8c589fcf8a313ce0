/-! a whole object made -/
def oWP0 (a b : Value) : va_E := .inr (11, [.ref 1, .ref 3, .ref 5, .ref 12, .ref 17, .ref 20, .ref 27, .ref 33, .ref 40, .ref 41, .ref 43, a, b, .int (nI 0)])
/-- what a new object holds -/
def WPm (w : ab_W) : Prop := (w 1 = oTape (nI 0) (nI 0) (nI 0) (nI 0) (nI 0) (nI 0) ∧ w 2 = aI 640 (fun _ => 0)) ∧ (w 3 = oKR (nI 0) (nI 0) (nI 0) ∧ w 4 = .inr (10, ab_df 10)) ∧ CMs w ∧ (w 12 = oPA (nI 0) 0 ∧ (∃ f, w 13 = aJ 5 f) ∧ (∃ f, w 14 = aJ 5 f) ∧ (∃ f, w 15 = aJ 5 f) ∧ ∃ f, w 16 = aJ 5 f) ∧ (w 17 = oSums (nI 0) (nI 0) ∧ (∃ f, w 18 = aJ 59 f) ∧ ∃ f, w 19 = aJ 60 f) ∧ (w 20 = oOrb (nI 0) (nI 0) (nI 0) ∧ (∃ f, w 21 = aJ 6960 f) ∧ (∃ f, w 22 = aJ 58 f) ∧ (∃ f, w 23 = aJ 58 f) ∧ (∃ f, w 24 = aJ 58 f) ∧ (∃ f, w 25 = aI 120 f) ∧ ∃ f, w 26 = aI 120 f) ∧ (w 27 = oTold (nI 0) (nI 0) (nI 0) (-nI 1) (nI 0) (nI 0) (nI 0) ∧ (∃ f, w 28 = aJ 3480 f) ∧ w 29 = aI 60 (fun _ => 0) ∧ w 30 = aJ 60 (fun _ => 0) ∧ w 31 = aI 60 (fun _ => 0) ∧ w 32 = aJ 58 (fun _ => 0)) ∧ (w 33 = oBox (nI 0) (nI 0) (nI 0) ∧ (∃ f, w 34 = aI 12 f) ∧ (∃ f, w 35 = aI 12 f) ∧ w 36 = aI 40 (fun _ => 0) ∧ w 37 = aI 40 (fun _ => 0) ∧ w 38 = aI 40 (fun _ => 0) ∧ w 39 = aI 40 (fun _ => 0)) ∧ (w 41 = oSheet (nI 0) (nI 0) 42 ∧ ∃ f, w 42 = aI 0 f) ∧ (∃ f, w 43 = aJ 3480 f)
def WP00 (w : ab_W) : Prop := w 0 = oWP 44 59 (nI 0) ∧ WPm w ∧ (w 44 = oKit 44 (nI 0) (nI 0) (nI 0) (nI 0) ∧ CSh w 44) ∧ (w 59 = oKit 59 (nI 0) (nI 0) (nI 0) (nI 0) ∧ CSh w 59) ∧ Sh0 w 8
section INIT3
variable {X : ab_X} {l : Launch}
/-- what the kits and the sheets made leave -/
def Q121 (w w' : ab_W) (n' : Nat) : Prop := 90 = n' ∧ Fr (fun k => k = 0 ∨ k = 40 ∨ 44 ≤ k) w w' ∧ w' 0 = oWP 44 59 (nI 0) ∧ (w' 44 = oKit 44 (nI 0) (nI 0) (nI 0) (nI 0) ∧ CSh w' 44) ∧ (w' 59 = oKit 59 (nI 0) (nI 0) (nI 0) (nI 0) ∧ CSh w' 59) ∧ Sh0 w' 8
theorem k_init143 (w w1 : ab_W) (fr : Fr (fun k => k = 0 ∨ k = 40 ∨ 44 ≤ k) w w1) (h0 : w1 0 = oWP 44 59 (nI 0)) (h40 : ∃ g : Nat → Option Nat, w1 40 = .inl (3, 8, .inr (.inr (.inr (.inr g))))) (k44 : w1 44 = oKit 44 (nI 0) (nI 0) (nI 0) (nI 0)) (s44 : CSh w1 44) (k59 : w1 59 = oKit 59 (nI 0) (nI 0) (nI 0) (nI 0)) (s59 : CSh w1 59) : ab_Ev X l i_WP_init 143 [some (.ref 0), none] [] w1 74 16 24 (qV (Q121 w)) := by
  have a : ab_Ev X l i_WP_init 145 [some (.ref 0), some (.int (nI 0))] [] w1 74 16 24 (qV (Q121 w)) := by
    refine ab_Ev.weaken (k_init145 w1 44 59 h0 h40) ?_
    intro r w' n' h
    obtain ⟨e, en, f, sh⟩ := h
    exact ⟨e, en, fr.trans (f.mono (fun k hk => by omega)), f.get h0 (by omega), ⟨f.get k44 (by omega), s44.fr f (fun k hk => by unfold FKt; omega)⟩, ⟨f.get k59 (by omega), s59.fr f (fun k hk => by unfold FKt; omega)⟩, sh⟩
  refine ab_sound ok_106 [145] 80 ?_
  exact a
theorem k_init132 (w w1 : ab_W) (fr : Fr (fun k => k = 0 ∨ k = 40 ∨ 44 ≤ k) w w1) (y0 : w1 0 = oWP0 (.ref 44) .null) (h40 : ∃ g : Nat → Option Nat, w1 40 = .inl (3, 8, .inr (.inr (.inr (.inr g))))) (y44 : w1 44 = oKit 44 (nI 0) (nI 0) (nI 0) (nI 0)) (s44 : CSh w1 44) : ab_Ev X l i_WP_init 132 [some (.ref 0), none] [] w1 59 31 230 (qV (Q121 w)) := by
  obtain ⟨g, h40⟩ := h40
  obtain ⟨w1, rfl⟩ := va_ex y0
  refine ab_sound ok_106 [143] 80 ?_
  refine And.intro (⟨by omega, by omega⟩) ?_
  (refine Exists.intro 14 ?_; refine ⟨188, _, by omega, by omega, c_Kit59_init _ rfl, ?_⟩; rintro _ w2 _ ⟨rfl, rfl, f2, k59, s59⟩)
  have z0 : w2 0 = oWP0 (.ref 44) .null := f2.get rfl (by unfold FKt; omega)
  have z40 : w2 40 = .inl (3, 8, .inr (.inr (.inr (.inr g)))) := f2.get h40 (by unfold FKt; omega)
  have z44 : w2 44 = oKit 44 (nI 0) (nI 0) (nI 0) (nI 0) := f2.get y44 (by unfold FKt; omega)
  have f1 : Fr (fun k => k = 59) (va_up w1 0 (oWP0 (.ref 44) .null)) (va_up (va_up w1 0 (oWP0 (.ref 44) .null)) 59 (.inr (1, ab_df 1))) := Fr.refl.up rfl
  have zs44 : CSh w2 44 := (s44.fr f1 (fun k hk => by unfold FKt; omega)).fr f2 (fun k hk => by unfold FKt at hk ⊢; omega)
  have fr2 : Fr (fun k => k = 0 ∨ k = 40 ∨ 44 ≤ k) w w2 := (fr.trans (f1.mono (fun k hk => by omega))).trans (f2.mono (fun k hk => by unfold FKt at hk; omega))
  have a := k_init143 (X := X) (l := l) w (va_up w2 0 (oWP 44 59 (nI 0))) (fr2.up (Or.inl rfl)) va_us ⟨g, z40⟩ z44 (zs44.fr (Fr.refl.up (k := 0) rfl : Fr (fun k => k = 0) _ _) (fun k hk => by unfold FKt; omega)) k59 (s59.fr (Fr.refl.up (k := 0) rfl : Fr (fun k => k = 0) _ _) (fun k hk => by unfold FKt; omega))
  obtain ⟨w2, rfl⟩ := va_ex z0
  refine ab_ev_of a rfl rfl ?_
  simp only [va_uu]
  rfl
theorem k_init121 (w : ab_W) (h0 : w 0 = oWP0 .null .null) (h40 : ∃ g : Nat → Option Nat, w 40 = .inl (3, 8, .inr (.inr (.inr (.inr g))))) : ab_Ev X l i_WP_init 121 [some (.ref 0), none] [] w 44 46 436 (qV (Q121 w)) := by
  obtain ⟨g, h40⟩ := h40
  obtain ⟨w, rfl⟩ := va_ex h0
  refine ab_sound ok_106 [132] 80 ?_
  refine And.intro (⟨by omega, by omega⟩) ?_
  (refine Exists.intro 14 ?_; refine ⟨188, _, by omega, by omega, c_Kit44_init _ rfl, ?_⟩; rintro _ w2 _ ⟨rfl, rfl, f2, k44, s44⟩)
  have z0 : w2 0 = oWP0 .null .null := f2.get rfl (by unfold FKt; omega)
  have z40 : w2 40 = .inl (3, 8, .inr (.inr (.inr (.inr g)))) := f2.get h40 (by unfold FKt; omega)
  have fr2 : Fr (fun k => k = 0 ∨ k = 40 ∨ 44 ≤ k) (va_up w 0 (oWP0 .null .null)) (va_up w2 0 (oWP0 (.ref 44) .null)) := (((Fr.refl.up (k := 44) (c := .inr (1, ab_df 1)) (by omega)).trans (f2.mono (fun k hk => by unfold FKt at hk; omega))).up (Or.inl rfl))
  have a := k_init132 (X := X) (l := l) _ (va_up w2 0 (oWP0 (.ref 44) .null)) fr2 va_us ⟨g, z40⟩ k44 (s44.fr (Fr.refl.up (k := 0) rfl : Fr (fun k => k = 0) _ _) (fun k hk => by unfold FKt; omega))
  obtain ⟨w2, rfl⟩ := va_ex z0
  refine ab_ev_of a rfl rfl ?_
  simp only [va_uu]
  rfl
theorem k_init121m (w : ab_W) (h0 : w 0 = oWP0 .null .null) (h40 : ∃ g : Nat → Option Nat, w 40 = .inl (3, 8, .inr (.inr (.inr (.inr g))))) (hm : WPm w) : ab_Ev X l i_WP_init 121 [some (.ref 0), none] [] w 44 46 436 (qV (fun w' n' => 90 = n' ∧ WP00 w')) := by
  refine ab_Ev.weaken (k_init121 w h0 h40) ?_
  intro r w' n' h
  obtain ⟨e, en, f, z0, z1, z2, z3⟩ := h
  have g : ∀ (k : Nat) (x : va_E), w k = x → ¬ (k = 0 ∨ k = 40 ∨ 44 ≤ k) → w' k = x := fun k x a b => f.get a b
  obtain ⟨⟨a1, a2⟩, ⟨a3, a4⟩, cm, ⟨a12, ⟨f13, a13⟩, ⟨f14, a14⟩, ⟨f15, a15⟩, ⟨f16, a16⟩⟩, ⟨a17, ⟨f18, a18⟩, ⟨f19, a19⟩⟩, ⟨a20, ⟨f21, a21⟩, ⟨f22, a22⟩, ⟨f23, a23⟩, ⟨f24, a24⟩, ⟨f25, a25⟩, ⟨f26, a26⟩⟩, ⟨a27, ⟨f28, a28⟩, a29, a30, a31, a32⟩, ⟨a33, ⟨f34, a34⟩, ⟨f35, a35⟩, a36, a37, a38, a39⟩, ⟨a41, ⟨f42, a42⟩⟩, ⟨f43, a43⟩⟩ := hm
  exact ⟨e, en, z0, ⟨⟨g _ _ a1 (by omega), g _ _ a2 (by omega)⟩, ⟨g _ _ a3 (by omega), g _ _ a4 (by omega)⟩, cm.fr f (fun k hk => by omega), ⟨g _ _ a12 (by omega), ⟨_, g _ _ a13 (by omega)⟩, ⟨_, g _ _ a14 (by omega)⟩, ⟨_, g _ _ a15 (by omega)⟩, ⟨_, g _ _ a16 (by omega)⟩⟩, ⟨g _ _ a17 (by omega), ⟨_, g _ _ a18 (by omega)⟩, ⟨_, g _ _ a19 (by omega)⟩⟩, ⟨g _ _ a20 (by omega), ⟨_, g _ _ a21 (by omega)⟩, ⟨_, g _ _ a22 (by omega)⟩, ⟨_, g _ _ a23 (by omega)⟩, ⟨_, g _ _ a24 (by omega)⟩, ⟨_, g _ _ a25 (by omega)⟩, ⟨_, g _ _ a26 (by omega)⟩⟩, ⟨g _ _ a27 (by omega), ⟨_, g _ _ a28 (by omega)⟩, g _ _ a29 (by omega), g _ _ a30 (by omega), g _ _ a31 (by omega), g _ _ a32 (by omega)⟩, ⟨g _ _ a33 (by omega), ⟨_, g _ _ a34 (by omega)⟩, ⟨_, g _ _ a35 (by omega)⟩, g _ _ a36 (by omega), g _ _ a37 (by omega), g _ _ a38 (by omega), g _ _ a39 (by omega)⟩, ⟨g _ _ a41 (by omega), ⟨_, g _ _ a42 (by omega)⟩⟩, ⟨_, g _ _ a43 (by omega)⟩⟩, z1, z2, z3⟩
theorem c_WP_init (w : ab_W) (h : w 0 = .inr (11, ab_df 11)) : ab_C X l i_WP_init [.ref 0] w 1 89 16125 (qV (fun w' n' => 90 = n' ∧ WP00 w')) := by
  obtain ⟨w, rfl⟩ := va_ex h
  refine ab_mqV cd_106 om_106 rfl rfl (ab_sound ok_106 [121] 80 ?_)
  refine And.intro (⟨by omega, by omega⟩) ?_
  (refine Exists.intro 1 ?_; refine ⟨640, _, by omega, by omega, c_Tape_init _ rfl, ?_⟩; rintro _ _ _ ⟨rfl, rfl, rfl⟩)
  refine And.intro (⟨by omega, by omega⟩) ?_
  (refine Exists.intro 1 ?_; refine ⟨11, _, by omega, by omega, c_KR_init _ rfl, ?_⟩; rintro _ _ _ ⟨rfl, rfl, rfl⟩)
  refine And.intro (⟨by omega, by omega⟩) ?_
  (refine Exists.intro 6 ?_; refine ⟨72, _, by omega, by omega, c_MR_init _ rfl, ?_⟩; rintro _ _ _ ⟨rfl, rfl, rfl⟩)
  refine And.intro (⟨by omega, by omega⟩) ?_
  (refine Exists.intro 4 ?_; refine ⟨20, _, by omega, by omega, c_PA_init _ rfl, ?_⟩; rintro _ _ _ ⟨rfl, rfl, rfl⟩)
  refine And.intro (⟨by omega, by omega⟩) ?_
  (refine Exists.intro 2 ?_; refine ⟨119, _, by omega, by omega, c_Sums_init _ rfl, ?_⟩; rintro _ _ _ ⟨rfl, rfl, rfl⟩)
  refine And.intro (⟨by omega, by omega⟩) ?_
  (refine Exists.intro 6 ?_; refine ⟨7374, _, by omega, by omega, c_Orb_init _ rfl, ?_⟩; rintro _ _ _ ⟨rfl, rfl, rfl⟩)
  refine And.intro (⟨by omega, by omega⟩) ?_
  (refine Exists.intro 5 ?_; refine ⟨3718, _, by omega, by omega, c_Told_init _ rfl, ?_⟩; rintro _ _ _ ⟨rfl, rfl, rfl⟩)
  refine And.intro (⟨by omega, by omega⟩) ?_
  (refine Exists.intro 6 ?_; refine ⟨184, _, by omega, by omega, c_Box_init _ rfl, ?_⟩; rintro _ _ _ ⟨rfl, rfl, rfl⟩)
  refine And.intro (⟨by decide +kernel, by decide +kernel, by omega, by omega⟩) ?_
  refine And.intro (⟨by omega, by omega⟩) ?_
  (refine Exists.intro 1 ?_; refine ⟨0, _, by omega, by omega, c_Sheet_init 41 42 _ (by omega) rfl, ?_⟩; rintro _ _ _ ⟨rfl, rfl, rfl⟩)
  refine And.intro (⟨by decide +kernel, by decide +kernel, by omega, by omega⟩) ?_
  exact k_init121m _ rfl ⟨_, rfl⟩ ⟨⟨rfl, rfl⟩, ⟨rfl, rfl⟩, ⟨⟨_, _, _, rfl⟩, ⟨_, rfl⟩, ⟨_, rfl⟩, ⟨_, rfl⟩, ⟨_, rfl⟩, ⟨_, rfl⟩, ⟨_, rfl⟩⟩, ⟨rfl, ⟨_, rfl⟩, ⟨_, rfl⟩, ⟨_, rfl⟩, ⟨_, rfl⟩⟩, ⟨rfl, ⟨_, rfl⟩, ⟨_, rfl⟩⟩, ⟨rfl, ⟨_, rfl⟩, ⟨_, rfl⟩, ⟨_, rfl⟩, ⟨_, rfl⟩, ⟨_, rfl⟩, ⟨_, rfl⟩⟩, ⟨rfl, ⟨_, rfl⟩, rfl, rfl, rfl, rfl⟩, ⟨rfl, ⟨_, rfl⟩, ⟨_, rfl⟩, rfl, rfl, rfl, rfl⟩, ⟨rfl, ⟨_, rfl⟩⟩, ⟨_, rfl⟩⟩
end INIT3
