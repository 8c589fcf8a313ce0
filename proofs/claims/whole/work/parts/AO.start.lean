/-! a new object and a new model: what holds between two calls holds at the start -/
section START
def K00 : KA := (fun _ => none, fun _ => 0, fun _ => 0, fun _ => 0, fun _ => 0, fun _ => 0, fun _ => 0, fun _ => 0, fun _ => 0)
def T00 : TD := (nI 0, -nI 1, nI 0, fun _ => 0, fun _ => 0, fun _ => 0, fun _ => 0)
def X00 : XD := (nI 0, fun _ => 0, fun _ => 0, fun _ => 0, fun _ => 0)
theorem no0 {P : Nat → Prop} : ∀ v, v < 0 → P v := fun _ h => absurd h (Nat.not_lt_zero _)
theorem iv0 {w w1 w2 : ab_W} {f0 : Nat → Int64} (h1 : WP00 w1) (h2 : MW0 w2) (hf : Fr (fun k => 90 ≤ k) w1 w) (hg : Fr (fun k => 134 ≤ k) w2 w) (h4 : w 134 = aJ 1 f0) : IV w 135 := by
  have g : ∀ (k : Nat) (x : va_E), w1 k = x → k < 90 → w k = x := fun k x a b => hf.get a (by omega)
  have m : ∀ (k : Nat) (x : va_E), w2 k = x → k < 134 → w k = x := fun k x a b => hg.get a (by omega)
  obtain ⟨h0, ⟨⟨a1, a2⟩, ⟨a3, a4⟩, cm, ⟨a12, ⟨f13, a13⟩, ⟨f14, a14⟩, ⟨f15, a15⟩, ⟨f16, a16⟩⟩, ⟨a17, ⟨f18, a18⟩, ⟨f19, a19⟩⟩, ⟨a20, ⟨f21, a21⟩, ⟨f22, a22⟩, ⟨f23, a23⟩, ⟨f24, a24⟩, ⟨f25, a25⟩, ⟨f26, a26⟩⟩, ⟨a27, ⟨f28, a28⟩, a29, a30, a31, a32⟩, ⟨a33, ⟨f34, a34⟩, ⟨f35, a35⟩, a36, a37, a38, a39⟩, ⟨a41, ⟨f42, a42⟩⟩, ⟨f43, a43⟩⟩, ⟨k44, s44⟩, ⟨k59, s59⟩, ⟨g40, h40, u40⟩, hs⟩ := h1
  obtain ⟨m90, ⟨m91, m92, m93, m94, m95, m96, m97, m98, m99, m100, m101⟩, ⟨m102, m103, m104, m105, m106, m107, m108, m109, m110, m111, m112⟩, ⟨m113, m114, m115, m116, m117, m118, m119, m120, m121, m122, m123⟩, ⟨m124, m125, m126, m127, m128, m129, m130, m131, m132, m133⟩⟩ := h2
  have t44 : CSh w 44 := s44.fr hf (fun k hk => by unfold FKt; omega)
  have t59 : CSh w 59 := s59.fr hf (fun k hk => by unfold FKt; omega)
  have hsh : ∀ t, t < 9 → w (qp t) = oSheet (nI 0) (nI 0) (qp t + 1) ∧ ∃ f, w (qp t + 1) = aI 0 f := by
    intro t ht
    by_cases h8 : t < 8
    · obtain ⟨b, f, c⟩ := hs t h8
      rw [qp_lt h8, show 74 + 2 * t + 1 = 75 + 2 * t by omega]
      exact ⟨g _ _ b (by omega), f, g _ _ c (by omega)⟩
    · obtain rfl : t = 8 := by omega
      exact ⟨g 41 _ a41 (by omega), f42, g 42 _ a42 (by omega)⟩
  have hS : KShA w 135 (fun _ => 0) (fun _ _ _ => 0) (fun t => qp t + 1) := by
    refine ⟨Nat.le_refl _, ⟨g40, g _ _ h40 (by omega), u40⟩, fun t _ => Or.inl rfl, fun t ht => ⟨?_, Or.inl rfl⟩, fun t u ht hu hne => ?_, fun t ht => ?_⟩
    · have := (qp_FS ht).2
      show qp t + 1 < 135
      omega
    · show qp t + 1 ≠ qp u + 1
      unfold qp
      split <;> split <;> omega
    · obtain ⟨b, f, c⟩ := hsh t ht
      exact ⟨⟨nI 0, nI 0, b, fun _ => rfl⟩, ⟨f, Or.inr ⟨c, fun _ => rfl⟩⟩, fun _ h => absurd rfl h⟩
  have hC : CKit w 44 K00 0 0 0 := by
    obtain ⟨-, -, -, -, -, -, ⟨f6, e6⟩, -, ⟨f8, e8⟩, ⟨f9, e9⟩, ⟨f10, e10⟩, ⟨f11, e11⟩, ⟨f12, e12⟩, ⟨f13, e13⟩, f14, e14⟩ := t44
    exact ⟨⟨nI 0, g _ _ k44 (by omega)⟩, ⟨f6, e6, no0⟩, ⟨f8, e8, no0⟩, ⟨f9, e9, no0⟩, ⟨f10, e10, no0⟩, ⟨f11, e11, no0⟩, ⟨f12, e12, no0⟩, ⟨f13, e13, no0⟩, f14, e14, no0⟩
  have hWL : isWL (w 4) := ⟨nI 0, nI 0, nI 0, nI 0, nI 0, nI 0, nI 0, nI 0, nI 0, 0, 0, (g _ _ a4 (by omega)).trans rfl⟩
  have hMK : MKit w K00 0 0 0 := ⟨⟨_, m _ _ m93 (by omega), rfl⟩, ⟨_, m _ _ m94 (by omega), rfl⟩, ⟨_, m _ _ m95 (by omega), rfl⟩, ⟨_, m _ _ m98 (by omega), no0⟩, ⟨_, m _ _ m99 (by omega), no0⟩, ⟨_, m _ _ m101 (by omega), no0⟩, ⟨_, m _ _ m102 (by omega), no0⟩, ⟨_, m _ _ m103 (by omega), no0⟩, ⟨_, m _ _ m104 (by omega), no0⟩, ⟨_, m _ _ m105 (by omega), no0⟩, _, m _ _ m106 (by omega), no0⟩
  have hMB : MB w sM0 0 0 (fun _ => 0) (fun _ _ _ => 0) := ⟨m _ _ m90 (by omega), Or.inl ⟨rfl, _, _, _, m _ _ m111 (by omega), m _ _ m112 (by omega), m _ _ m113 (by omega)⟩, ⟨fun t _ => Or.inl rfl, _, _, m _ _ m115 (by omega), fun t _ => rfl, m _ _ m116 (by omega), fun t k i _ hk _ => absurd hk (Nat.not_lt_zero _)⟩, ⟨_, m _ _ m114 (by omega)⟩, ⟨_, m _ _ m117 (by omega)⟩, _, m _ _ m118 (by omega)⟩
  have hI : ICl w 135 0 (fun _ => 0) 44 59 (nI 0) (fun _ => 0) (fun _ _ _ => 0) K00 0 0 0 T00 X00 :=
    ⟨⟨⟨g _ _ h0 (by omega), Or.inl ⟨f18, f19, g _ _ a17 (by omega), g _ _ a18 (by omega), g _ _ a19 (by omega)⟩, ⟨_, hS⟩, f43, g _ _ a43 (by omega)⟩, ⟨⟨_, _, _, g _ _ a20 (by omega)⟩, ⟨_, g _ _ a21 (by omega)⟩, ⟨_, g _ _ a22 (by omega)⟩, ⟨_, g _ _ a23 (by omega)⟩, ⟨_, g _ _ a24 (by omega)⟩, ⟨_, g _ _ a25 (by omega)⟩, _, g _ _ a26 (by omega)⟩⟩,
     ⟨⟨_, _, _, _, g _ _ a27 (by omega)⟩, ⟨_, g _ _ a28 (by omega)⟩, g _ _ a29 (by omega), g _ _ a30 (by omega), g _ _ a31 (by omega), g _ _ a32 (by omega)⟩,
     ⟨⟨_, _, g _ _ a33 (by omega)⟩, ⟨_, g _ _ a34 (by omega)⟩, ⟨_, g _ _ a35 (by omega)⟩, g _ _ a36 (by omega), g _ _ a37 (by omega), g _ _ a38 (by omega), g _ _ a39 (by omega)⟩,
     ⟨hC, ⟨⟨by omega, by omega⟩, no0, no0⟩, ⟨⟨_, _, g _ _ a12 (by omega)⟩, ⟨_, g _ _ a13 (by omega)⟩, ⟨_, g _ _ a14 (by omega)⟩, ⟨_, g _ _ a15 (by omega)⟩, _, g _ _ a16 (by omega)⟩⟩,
     ⟨t44, t59⟩, ⟨hWL, _, _, _, g _ _ a3 (by omega)⟩, cm.fr hf (fun k hk => by omega), ⟨_, _, _, _, _, g _ _ a1 (by omega)⟩, g _ _ a2 (by omega)⟩
  have hM : IMs w sM0 0 0 0 (fun _ => 0) (nI 0) (fun _ => 0) (fun _ _ _ => 0) K00 0 0 0 T00 X00 :=
    ⟨hMB, ⟨hMK, ⟨_, m _ _ m92 (by omega)⟩, ⟨_, m _ _ m96 (by omega)⟩, ⟨_, m _ _ m97 (by omega)⟩, _, m _ _ m100 (by omega)⟩,
     ⟨⟨_, m _ _ m107 (by omega)⟩, ⟨_, m _ _ m108 (by omega)⟩, ⟨_, m _ _ m109 (by omega)⟩, _, m _ _ m110 (by omega)⟩,
     ⟨⟨_, m _ _ m119 (by omega)⟩, ⟨_, m _ _ m120 (by omega)⟩, ⟨_, m _ _ m121 (by omega)⟩, ⟨_, m _ _ m122 (by omega)⟩, ⟨_, m _ _ m123 (by omega)⟩, _, m _ _ m124 (by omega)⟩,
     m _ _ m91 (by omega), ⟨_, m _ _ m125 (by omega)⟩, ⟨m _ _ m126 (by omega), m _ _ m127 (by omega), m _ _ m128 (by omega), m _ _ m129 (by omega)⟩, ⟨m _ _ m130 (by omega), m _ _ m131 (by omega), m _ _ m132 (by omega), m _ _ m133 (by omega)⟩, ⟨rfl, rfl, rfl, rfl, rfl, rfl⟩⟩
  exact ⟨0, fun _ => 0, 44, 59, nI 0, fun _ => 0, fun _ _ _ => 0, K00, 0, 0, 0, T00, T00, X00, X00, sM0, 0, 0, ⟨by omega, Or.inl ⟨rfl, rfl⟩⟩, hI, hM, ⟨⟨0, by omega, rfl, rfl, no0⟩, rfl, fun h => absurd rfl h⟩, ⟨0, by omega, rfl, rfl, no0⟩, f0, h4⟩
end START
