/-! kit of the class -/
def kitV : Out → Int32
  | .inl e => -nI 1 - nI e.2
  | .inr x => nI (sN x.2)
def kitF : Out → Int32
  | .inl e => nI e.1
  | .inr _ => nI 0
section WPKIT
variable {X : ab_X} {l : Launch}
theorem k_WP_kit_44 (L : Nat) (tb : Nat → Int32) (w : ab_W) (n : Nat) (hL : L ≤ 640) {lf b c d e f r1 r2 r3 : Int32} (h0 : w 0 = oWP 59 44 lf) (h1 : w 1 = oTape (nI L) b c d e f) (h2 : w 2 = aI 640 tb) (h3 : w 3 = oKR r1 r2 r3) (h4 : isWL (w 4)) (hC : CSh w 44) : ab_C X l i_WP_kit [.ref 0] w n 0 0 (qI (kitV (rdK (tb, L, 600) 26 KSz 0)) (fun w' n' => n = n' ∧ Fr (fun k => k = 0 ∨ FRd 44 k) w w' ∧ (∃ b c d e f, w' 1 = oTape (nI 0) b c d e f) ∧ (∃ a b c, w' 3 = oKR a b c) ∧ isWL (w' 4) ∧ CSh w' 44 ∧ (∀ e, rdK (tb, L, 600) 26 KSz 0 = .inl e → w' 0 = oWP 59 44 (nI e.1)) ∧ (∀ x, rdK (tb, L, 600) 26 KSz 0 = .inr x → w' 0 = oWP 44 59 (nI 0) ∧ CRd w' 44 x.2))) := by
  have ck := k_read_44 (X := X) (l := l) (tb, L, 600) w n rfl hL h1 h2 h3 h4 hC
  generalize rdK (tb, L, 600) 26 KSz 0 = O at ck ⊢
  obtain ⟨w, rfl⟩ := va_ex3 h0 h1 h3
  refine ab_mqI cd_109 om_109 rfl (ab_sound ok_109 [] 80 ?_)
  (refine Exists.intro 0 ?_; refine ⟨0, _, Nat.zero_le _, Nat.zero_le _, ck, ?_⟩; rintro _ w1 _ ⟨v, rfl, rfl, f1, ⟨⟨b9, c9, d9, e9, f9, y1⟩, y2, y4, yC⟩, hl, hr⟩)
  have y0 : w1 0 = oWP 59 44 lf := f1.get rfl (by unfold FRd FKt; omega)
  have f2 := f1.mono (G := fun k => k = 0 ∨ FRd 44 k) (fun k hk => Or.inr hk)
  have q1 : ¬ FKt 44 0 := by unfold FKt; omega
  cases O with
  | inl x =>
    obtain ⟨rfl, z3, g3⟩ := hl x rfl
    obtain ⟨w1, rfl⟩ := va_ex3 y0 y1 g3
    refine And.intro (fun h_9 => absurd (rfl) h_9) (fun _ => ?_)
    refine ⟨rfl, rfl, (f2.up (Or.inr (Or.inl rfl))).up (Or.inl rfl), ⟨_, _, _, _, _, rfl⟩, ⟨_, _, _, rfl⟩, y4, (yC.up n1_44).up q1, fun e8 he => ?_, fun x hx => (by cases hx)⟩
    have z : x = e8 := Sum.inl.inj he
    subst z
    rfl
  | inr x =>
    obtain ⟨rfl, ⟨z2, g3⟩, gC⟩ := hr x rfl
    obtain ⟨w1, rfl⟩ := va_ex3 y0 y1 g3
    refine And.intro (fun _ => ?_) (fun h_9 => absurd h_9 ((by decide)))
    refine ⟨rfl, rfl, (((f2.up (Or.inr (Or.inl rfl))).up (Or.inl rfl)).up (Or.inl rfl)).up (Or.inl rfl), ⟨_, _, _, _, _, rfl⟩, ⟨_, _, _, rfl⟩, y4, (((yC.up n1_44).up q1).up q1).up q1, fun e8 he => (by cases he), fun x2 hx => ?_⟩
    have z : x = x2 := Sum.inr.inj hx
    subst z
    exact ⟨rfl, (((gC.up n1_44).up q1).up q1).up q1⟩
theorem k_WP_kit_59 (L : Nat) (tb : Nat → Int32) (w : ab_W) (n : Nat) (hL : L ≤ 640) {lf b c d e f r1 r2 r3 : Int32} (h0 : w 0 = oWP 44 59 lf) (h1 : w 1 = oTape (nI L) b c d e f) (h2 : w 2 = aI 640 tb) (h3 : w 3 = oKR r1 r2 r3) (h4 : isWL (w 4)) (hC : CSh w 59) : ab_C X l i_WP_kit [.ref 0] w n 0 0 (qI (kitV (rdK (tb, L, 600) 26 KSz 0)) (fun w' n' => n = n' ∧ Fr (fun k => k = 0 ∨ FRd 59 k) w w' ∧ (∃ b c d e f, w' 1 = oTape (nI 0) b c d e f) ∧ (∃ a b c, w' 3 = oKR a b c) ∧ isWL (w' 4) ∧ CSh w' 59 ∧ (∀ e, rdK (tb, L, 600) 26 KSz 0 = .inl e → w' 0 = oWP 44 59 (nI e.1)) ∧ (∀ x, rdK (tb, L, 600) 26 KSz 0 = .inr x → w' 0 = oWP 59 44 (nI 0) ∧ CRd w' 59 x.2))) := by
  have ck := k_read_59 (X := X) (l := l) (tb, L, 600) w n rfl hL h1 h2 h3 h4 hC
  generalize rdK (tb, L, 600) 26 KSz 0 = O at ck ⊢
  obtain ⟨w, rfl⟩ := va_ex3 h0 h1 h3
  refine ab_mqI cd_109 om_109 rfl (ab_sound ok_109 [] 80 ?_)
  (refine Exists.intro 0 ?_; refine ⟨0, _, Nat.zero_le _, Nat.zero_le _, ck, ?_⟩; rintro _ w1 _ ⟨v, rfl, rfl, f1, ⟨⟨b9, c9, d9, e9, f9, y1⟩, y2, y4, yC⟩, hl, hr⟩)
  have y0 : w1 0 = oWP 44 59 lf := f1.get rfl (by unfold FRd FKt; omega)
  have f2 := f1.mono (G := fun k => k = 0 ∨ FRd 59 k) (fun k hk => Or.inr hk)
  have q1 : ¬ FKt 59 0 := by unfold FKt; omega
  cases O with
  | inl x =>
    obtain ⟨rfl, z3, g3⟩ := hl x rfl
    obtain ⟨w1, rfl⟩ := va_ex3 y0 y1 g3
    refine And.intro (fun h_9 => absurd (rfl) h_9) (fun _ => ?_)
    refine ⟨rfl, rfl, (f2.up (Or.inr (Or.inl rfl))).up (Or.inl rfl), ⟨_, _, _, _, _, rfl⟩, ⟨_, _, _, rfl⟩, y4, (yC.up n1_59).up q1, fun e8 he => ?_, fun x hx => (by cases hx)⟩
    have z : x = e8 := Sum.inl.inj he
    subst z
    rfl
  | inr x =>
    obtain ⟨rfl, ⟨z2, g3⟩, gC⟩ := hr x rfl
    obtain ⟨w1, rfl⟩ := va_ex3 y0 y1 g3
    refine And.intro (fun _ => ?_) (fun h_9 => absurd h_9 ((by decide)))
    refine ⟨rfl, rfl, (((f2.up (Or.inr (Or.inl rfl))).up (Or.inl rfl)).up (Or.inl rfl)).up (Or.inl rfl), ⟨_, _, _, _, _, rfl⟩, ⟨_, _, _, rfl⟩, y4, (((yC.up n1_59).up q1).up q1).up q1, fun e8 he => (by cases he), fun x2 hx => ?_⟩
    have z : x = x2 := Sum.inr.inj hx
    subst z
    exact ⟨rfl, (((gC.up n1_59).up q1).up q1).up q1⟩
end WPKIT
