/-! kit of the model -/
def cpA {α : Type} (o : Nat) (f : Nat → α) (k : Nat) : Nat → α := fun j => if j < k then f (o + j) else f j
theorem cp_lt {α : Type} {o k j : Nat} {f : Nat → α} (h : j < k) : cpA o f k j = f (o + j) := by unfold cpA; rw [if_pos h]
theorem cp_t32 {o k : Nat} {f : Nat → Int32} (h : k ≤ o) : upd (cpA o f k) k (cpA o f k (o + k)) = cpA o f (k + 1) := by
  funext j
  unfold cpA
  by_cases e : j = k
  · rw [e, upd_at, if_neg (by omega), if_pos (by omega)]
  · rw [upd_ne e]
    by_cases e2 : j < k
    · rw [if_pos e2, if_pos (by omega)]
    · rw [if_neg e2, if_neg (by omega)]
theorem cp_t64 {o k : Nat} {f : Nat → Int64} (h : k ≤ o) : vp_updL (cpA o f k) k (cpA o f k (o + k)) = cpA o f (k + 1) := by
  funext j
  unfold cpA
  by_cases e : j = k
  · rw [e, pk_uLs, if_neg (by omega), if_pos (by omega)]
  · rw [pk_uLn e]
    by_cases e2 : j < k
    · rw [if_pos e2, if_pos (by omega)]
    · rw [if_neg e2, if_neg (by omega)]
def FKm (k : Nat) : Prop := k = 0 ∨ (2 ≤ k ∧ k ≤ 11) ∨ k = 13
def kmQ (K0 : KA) (a0 b0 c0 : Nat) (w : ab_W) (n : Nat) (s : Nat → Int32) (tn : Int64) (O : Out) (w' : ab_W) (n' : Nat) : Prop := n = n' ∧ Fr FMk w w' ∧ ∃ s' wd', w' 90 = oMod s' wd' tn ∧ Fr FKm s s' ∧ s' 0 = nI 0 ∧ s' 2 = nI 0 ∧ s' 10 = kitF O ∧ (∀ e, O = .inl e → MKs w' K0 a0 b0 c0) ∧ (∀ x, O = .inr x → MKs w' (sK x.2) (sR x.2) (sW x.2) (sP x.2))
section MKITALL
variable {X : ab_X} {l : Launch}
theorem k_mk84 (m : Nat) (w w1 : ab_W) (n : Nat) {K0 : KA} {a0 b0 c0 : Nat} {s0 s : Nat → Int32} {wd tn : Int64} {S : KS} {O : Out} {p : Nat} (hO : .inr (p, S) = O) (hm : m = sN S) (hS : KSok S) (fr : Fr FMk w w1) (h90 : w1 90 = oMod s wd tn) (frs : Fr FKm s0 s) (z0 : s 0 = nI 0) (z2 : s 2 = nI 0) (z10 : s 10 = nI 0) (hJ : MJ w1 K0 a0 b0 c0 S) :
    ab_Ev X l i_Mod_kit 84 [some (.ref 90), some (.int (nI m)), none] [] w1 n 0 0 (qI (kitV O) (kmQ K0 a0 b0 c0 w n s0 tn O)) := by
  have hr := hS.1
  obtain ⟨⟨f2, h92, _⟩, ⟨f3, h93, l3, u3⟩, ⟨f4, h94, l4, u4⟩, ⟨f5, h95, l5, u5⟩, ⟨f6, h96, _⟩, ⟨f7, h97, _⟩, ⟨f8, h98, l8, u8⟩, ⟨f9, h99, l9, u9⟩, ⟨f10, h100, _⟩, ⟨f11, h101, l11, u11⟩, ⟨f12, h102, l12, u12⟩, ⟨g3, h103, l13, u13⟩, ⟨g4, h104, l14, u14⟩, ⟨g5, h105, l15, u15⟩, ⟨g6, h106, l16, u16⟩⟩ := hJ
  have fin : ∀ w9 : ab_W, Fr FMk w1 w9 → w9 90 = oMod s wd tn → w9 92 = aJ 24 f2 → w9 96 = aI 8 f6 → w9 97 = aI 24 f7 → w9 100 = aI 24 f10 → w9 93 = aI 2 (upd f3 0 (f3 1)) → w9 94 = aI 2 (upd f4 0 (f4 1)) → w9 95 = aI 2 (upd f5 0 (f5 1)) → w9 98 = aI 24 (cpA 12 f8 12) → w9 99 = aI 24 (cpA 12 f9 12) → w9 101 = aI 16 (cpA 8 f11 8) → w9 102 = aI 16 (cpA 8 f12 8) → w9 103 = aJ 24 (cpA 12 g3 12) → w9 104 = aJ 24 (cpA 12 g4 12) → w9 105 = aJ 24 (cpA 12 g5 12) → w9 106 = aJ 24 (cpA 12 g6 12) → kmQ K0 a0 b0 c0 w n s0 tn O w9 n := by
    intro w9 F y90 y92 y96 y97 y100 y93 y94 y95 y98 y99 y101 y102 y103 y104 y105 y106
    refine ⟨rfl, fr.trans F, s, wd, y90, frs, z0, z2, by rw [z10, ← hO]; rfl, fun e he => ?_, fun x hx => ?_⟩
    · have z : (Sum.inr (p, S) : Out) = .inl e := hO.trans he
      cases z
    · have z : (p, S) = x := Sum.inr.inj (hO.trans hx)
      subst z
      show MKs w9 (sK S) (sR S) (sW S) (sP S)
      refine ⟨⟨⟨_, y93, by rw [upd_at, u3]⟩, ⟨_, y94, by rw [upd_at, u4]⟩, ⟨_, y95, by rw [upd_at, u5]⟩, ⟨_, y98, fun v hv => ?_⟩, ⟨_, y99, fun v hv => ?_⟩, ⟨_, y101, fun v hv => ?_⟩, ⟨_, y102, fun v hv => ?_⟩, ⟨_, y103, fun v hv => ?_⟩, ⟨_, y104, fun v hv => ?_⟩, ⟨_, y105, fun v hv => ?_⟩, ⟨_, y106, fun v hv => ?_⟩⟩, ⟨_, y92⟩, ⟨_, y96⟩, ⟨_, y97⟩, ⟨_, y100⟩⟩
      · rw [cp_lt (by omega)]; exact u8 v hv
      · rw [cp_lt (by omega)]; exact u9 v hv
      · rw [cp_lt (by omega)]; exact u11 v hv
      · rw [cp_lt (by omega)]; exact u12 v hv
      · rw [cp_lt (by omega)]; exact u13 v hv
      · rw [cp_lt (by omega)]; exact u14 v hv
      · rw [cp_lt (by omega)]; exact u15 v hv
      · rw [cp_lt (by omega)]; exact u16 v hv
  have hv : kitV O = nI m := by rw [← hO, hm]; rfl
  rw [hv]
  generalize hQ : kmQ K0 a0 b0 c0 w n s0 tn O = Q at fin ⊢
  have pens : ∀ k, k ≤ 8 → ∀ w9 : ab_W, Fr FMk w1 w9 → w9 90 = oMod s wd tn → w9 92 = aJ 24 f2 → w9 96 = aI 8 f6 → w9 97 = aI 24 f7 → w9 100 = aI 24 f10 → w9 93 = aI 2 (upd f3 0 (f3 1)) → w9 94 = aI 2 (upd f4 0 (f4 1)) → w9 95 = aI 2 (upd f5 0 (f5 1)) → w9 98 = aI 24 (cpA 12 f8 12) → w9 99 = aI 24 (cpA 12 f9 12) → w9 101 = aI 16 (cpA 8 f11 k) → w9 102 = aI 16 (cpA 8 f12 k) → w9 103 = aJ 24 (cpA 12 g3 12) → w9 104 = aJ 24 (cpA 12 g4 12) → w9 105 = aJ 24 (cpA 12 g5 12) → w9 106 = aJ 24 (cpA 12 g6 12) → ab_Ev X l i_Mod_kit 226 [some (.ref 90), some (.int (nI m)), some (.int (nI k))] [] w9 n 0 0 (qI (nI m) Q) := by
    refine ab_up 8 ?_ (fun k hk ih => ?_)
    · intro w9 F y90 y92 y96 y97 y100 y93 y94 y95 y98 y99 y101 y102 y103 y104 y105 y106
      have q := fin w9 F y90 y92 y96 y97 y100 y93 y94 y95 y98 y99 y101 y102 y103 y104 y105 y106
      refine ab_sound ok_154 [] 80 ?_
      refine And.intro (fun _ => ?_) (fun h_9 => absurd (nI_le (Nat.le_refl _) (by omega)) h_9)
      exact ⟨rfl, q⟩
    · intro w9 F y90 y92 y96 y97 y100 y93 y94 y95 y98 y99 y101 y102 y103 y104 y105 y106
      have ih := fun w8 a => ih w8 (F.trans a)
      obtain ⟨w9, rfl⟩ := va_ex3 y90 y101 y102
      refine ab_sound ok_154 [226] 80 ?_
      refine And.intro (fun h_9 => absurd h_9 (nI_ge hk (by omega))) (fun _ => ?_)
      refine And.intro ((by rw [nI_add]; exact vp_in_nI (show 8 + k < 16 by omega) (by omega))) ?_
      rw [nI_add, nI_clamp (by omega)]
      refine And.intro (vp_in_nI (show k < 16 by omega) (by omega)) ?_
      rw [nI_clamp (by omega)]
      refine And.intro ((by rw [nI_add]; exact vp_in_nI (show 8 + k < 16 by omega) (by omega))) ?_
      rw [nI_add, nI_clamp (by omega)]
      refine And.intro (vp_in_nI (show k < 16 by omega) (by omega)) ?_
      rw [nI_clamp (by omega)]
      rw [cp_t32 (by omega), cp_t32 (by omega)]
      exact ab_ev_of (ih _ ((Fr.refl.up (k := 101) (c := aI 16 (cpA 8 f11 (k + 1))) (by unfold FMk; omega)).up (k := 102) (c := aI 16 (cpA 8 f12 (k + 1))) (by unfold FMk; omega)) rfl y92 y96 y97 y100 y93 y94 y95 y98 y99 rfl rfl y103 y104 y105 y106) (by rw [nI_s k]; rfl) rfl rfl
  have wheels : ∀ k, k ≤ 12 → ∀ w9 : ab_W, Fr FMk w1 w9 → w9 90 = oMod s wd tn → w9 92 = aJ 24 f2 → w9 96 = aI 8 f6 → w9 97 = aI 24 f7 → w9 100 = aI 24 f10 → w9 93 = aI 2 (upd f3 0 (f3 1)) → w9 94 = aI 2 (upd f4 0 (f4 1)) → w9 95 = aI 2 (upd f5 0 (f5 1)) → w9 98 = aI 24 (cpA 12 f8 k) → w9 99 = aI 24 (cpA 12 f9 k) → w9 101 = aI 16 (cpA 8 f11 0) → w9 102 = aI 16 (cpA 8 f12 0) → w9 103 = aJ 24 (cpA 12 g3 k) → w9 104 = aJ 24 (cpA 12 g4 k) → w9 105 = aJ 24 (cpA 12 g5 k) → w9 106 = aJ 24 (cpA 12 g6 k) → ab_Ev X l i_Mod_kit 122 [some (.ref 90), some (.int (nI m)), some (.int (nI k))] [] w9 n 0 0 (qI (nI m) Q) := by
    refine ab_up 12 ?_ (fun k hk ih => ?_)
    · intro w9 F y90 y92 y96 y97 y100 y93 y94 y95 y98 y99 y101 y102 y103 y104 y105 y106
      have q := pens 0 (by omega) w9 F y90 y92 y96 y97 y100 y93 y94 y95 y98 y99 y101 y102 y103 y104 y105 y106
      refine ab_sound ok_154 [226] 80 ?_
      refine And.intro (fun _ => ?_) (fun h_9 => absurd (nI_le (Nat.le_refl _) (by omega)) h_9)
      exact ab_ev_of q rfl rfl rfl
    · intro w9 F y90 y92 y96 y97 y100 y93 y94 y95 y98 y99 y101 y102 y103 y104 y105 y106
      have ih := fun w8 a => ih w8 (F.trans a)
      obtain ⟨w9, rfl⟩ : ∃ w0, w9 = va_up (va_up (va_up (va_up (va_up (va_up (va_up w0 106 (aJ 24 (cpA 12 g6 k))) 105 (aJ 24 (cpA 12 g5 k))) 104 (aJ 24 (cpA 12 g4 k))) 103 (aJ 24 (cpA 12 g3 k))) 99 (aI 24 (cpA 12 f9 k))) 98 (aI 24 (cpA 12 f8 k))) 90 (oMod s wd tn) := ⟨w9, by rw [← va_self y106, ← va_self y105, ← va_self y104, ← va_self y103, ← va_self y99, ← va_self y98, ← va_self y90]⟩
      refine ab_sound ok_154 [122] 80 ?_
      refine And.intro (fun h_9 => absurd h_9 (nI_ge hk (by omega))) (fun _ => ?_)
      refine And.intro ((by rw [nI_add]; exact vp_in_nI (show 12 + k < 24 by omega) (by omega))) ?_
      rw [nI_add, nI_clamp (by omega)]
      refine And.intro (vp_in_nI (show k < 24 by omega) (by omega)) ?_
      rw [nI_clamp (by omega)]
      refine And.intro ((by rw [nI_add]; exact vp_in_nI (show 12 + k < 24 by omega) (by omega))) ?_
      rw [nI_add, nI_clamp (by omega)]
      refine And.intro (vp_in_nI (show k < 24 by omega) (by omega)) ?_
      rw [nI_clamp (by omega)]
      refine And.intro ((by rw [nI_add]; exact vp_in_nI (show 12 + k < 24 by omega) (by omega))) ?_
      rw [nI_add, nI_clamp (by omega)]
      refine And.intro (vp_in_nI (show k < 24 by omega) (by omega)) ?_
      rw [nI_clamp (by omega)]
      refine And.intro ((by rw [nI_add]; exact vp_in_nI (show 12 + k < 24 by omega) (by omega))) ?_
      rw [nI_add, nI_clamp (by omega)]
      refine And.intro (vp_in_nI (show k < 24 by omega) (by omega)) ?_
      rw [nI_clamp (by omega)]
      refine And.intro ((by rw [nI_add]; exact vp_in_nI (show 12 + k < 24 by omega) (by omega))) ?_
      rw [nI_add, nI_clamp (by omega)]
      refine And.intro (vp_in_nI (show k < 24 by omega) (by omega)) ?_
      rw [nI_clamp (by omega)]
      refine And.intro ((by rw [nI_add]; exact vp_in_nI (show 12 + k < 24 by omega) (by omega))) ?_
      rw [nI_add, nI_clamp (by omega)]
      refine And.intro (vp_in_nI (show k < 24 by omega) (by omega)) ?_
      rw [nI_clamp (by omega)]
      rw [cp_t32 (by omega), cp_t32 (by omega), cp_t64 (by omega), cp_t64 (by omega), cp_t64 (by omega), cp_t64 (by omega)]
      exact ab_ev_of (ih _ ((((((Fr.refl.up (k := 98) (c := aI 24 (cpA 12 f8 (k + 1))) (by unfold FMk; omega)).up (k := 99) (c := aI 24 (cpA 12 f9 (k + 1))) (by unfold FMk; omega)).up (k := 103) (c := aJ 24 (cpA 12 g3 (k + 1))) (by unfold FMk; omega)).up (k := 104) (c := aJ 24 (cpA 12 g4 (k + 1))) (by unfold FMk; omega)).up (k := 105) (c := aJ 24 (cpA 12 g5 (k + 1))) (by unfold FMk; omega)).up (k := 106) (c := aJ 24 (cpA 12 g6 (k + 1))) (by unfold FMk; omega)) rfl y92 y96 y97 y100 y93 y94 y95 rfl rfl y101 y102 rfl rfl rfl rfl) (by rw [nI_s k]; rfl) rfl rfl
  have c0e : ∀ {α : Type} {o : Nat} {f : Nat → α}, f = cpA o f 0 := fun {α o f} => by
    funext j
    unfold cpA
    rw [if_neg (by omega)]
  have wh := fun w9 a b c d e f g h i => wheels 0 (by omega) w9 a b c d e f g h i
  rw [← c0e, ← c0e, ← c0e, ← c0e, ← c0e, ← c0e, ← c0e, ← c0e] at wh
  obtain ⟨w1, rfl⟩ := va_ex4 h90 h93 h94 h95
  refine ab_sound ok_154 [122] 80 ?_
  refine And.intro (vp_in_nI (show 1 < 2 by omega) (by omega)) ?_
  refine And.intro (vp_in_nI (show 0 < 2 by omega) (by omega)) ?_
  refine And.intro (vp_in_nI (show 1 < 2 by omega) (by omega)) ?_
  refine And.intro (vp_in_nI (show 0 < 2 by omega) (by omega)) ?_
  refine And.intro (vp_in_nI (show 1 < 2 by omega) (by omega)) ?_
  refine And.intro (vp_in_nI (show 0 < 2 by omega) (by omega)) ?_
  exact ab_ev_of (wh _ (((Fr.refl.up (k := 93) (c := aI 2 (upd f3 0 (f3 1))) (by unfold FMk; omega)).up (k := 94) (c := aI 2 (upd f4 0 (f4 1))) (by unfold FMk; omega)).up (k := 95) (c := aI 2 (upd f5 0 (f5 1))) (by unfold FMk; omega)) rfl h92 h96 h97 h100 rfl rfl rfl h98 h99 h101 h102 h103 h104 h105 h106) rfl rfl rfl
end MKITALL
