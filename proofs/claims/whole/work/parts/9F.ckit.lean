/-! the class's kit while it is read -/
def NmP (lo : Nat → Option (Nat × Nat)) (N : Nat) (fn fo fu : Nat → Int32) : Prop := (∀ i, i < N → ∃ c x, lo c = some x ∧ fn i = nI c ∧ fo i = nI x.1 ∧ fu i = nI x.2) ∧ ∀ c x, lo c = some x → ∃ i, i < N ∧ fn i = nI c
theorem nm_add {lo : Nat → Option (Nat × Nat)} {N : Nat} {fn fo fu : Nat → Int32} {c s j : Nat} (h : NmP lo N fn fo fu) (hc : lo c = none) : NmP (va_up lo c (some (s, j))) (N + 1) (upd fn N (nI c)) (upd fo N (nI s)) (upd fu N (nI j)) := by
  refine ⟨fun i hi => ?_, fun d x hx => ?_⟩
  · by_cases e : i = N
    · subst e
      exact ⟨c, (s, j), va_us, upd_at, upd_at, upd_at⟩
    · obtain ⟨d, x, h1, h2, h3, h4⟩ := h.1 i (by omega)
      have hd : d ≠ c := fun z => by rw [z, hc] at h1; cases h1
      exact ⟨d, x, by rw [va_un hd]; exact h1, by rw [upd_ne e]; exact h2, by rw [upd_ne e]; exact h3, by rw [upd_ne e]; exact h4⟩
  · rcases upL hx with ⟨e1, e2⟩ | ⟨e1, e2⟩
    · exact ⟨N, by omega, by rw [upd_at, e1]⟩
    · obtain ⟨i, h1, h2⟩ := h.2 d x e2
      exact ⟨i, by omega, by rw [upd_ne (by omega)]; exact h2⟩
theorem nm_find {lo : Nat → Option (Nat × Nat)} {N : Nat} {fn fo fu : Nat → Int32} {c : Nat} {x : Nat × Nat} (h : NmP lo N fn fo fu) (hv : ∀ c x, lo c = some x → vd c) (hc : lo c = some x) : ∃ i, i < N ∧ fn i = nI c ∧ (∀ j, j < i → fn j ≠ nI c) ∧ fo i = nI x.1 ∧ fu i = nI x.2 := by
  obtain ⟨i0, h1, h2⟩ := h.2 c x hc
  obtain ⟨i, ⟨h3, h4⟩, h5⟩ := pk_least (fun i => i < N ∧ fn i = nI c) ⟨i0, h1, h2⟩
  obtain ⟨d, y, g1, g2, g3, g4⟩ := h.1 i h3
  have e : d = c := by
    have z : nI d = nI c := by rw [← g2, h4]
    rw [nI_eq (Nat.lt_trans (vd_lt (hv d y g1)).1 (by omega)) (Nat.lt_trans (vd_lt (hv c x hc)).1 (by omega))] at z
    exact z
  subst e
  have e2 : y = x := Option.some.inj (g1.symm.trans hc)
  subst e2
  exact ⟨i, h3, h4, fun j hj z => h5 j hj ⟨by omega, z⟩, g3, g4⟩
theorem nm_none {lo : Nat → Option (Nat × Nat)} {N : Nat} {fn fo fu : Nat → Int32} {c : Nat} (h : NmP lo N fn fo fu) (hv : ∀ c x, lo c = some x → vd c) (hc : lo c = none) (hvc : vd c) : ∀ j, j < N → fn j ≠ nI c := fun j hj z => by
  obtain ⟨d, y, g1, g2, _, _⟩ := h.1 j hj
  have z : nI d = nI c := by rw [← g2, z]
  rw [nI_eq (Nat.lt_trans (vd_lt (hv d y g1)).1 (by omega)) (Nat.lt_trans (vd_lt hvc).1 (by omega))] at z
  rw [z, hc] at g1
  cases g1
theorem up_ex {α : Type} {f : Nat → Int32} {g : Nat → α} {F : α → Int32} {v : Nat} {x : Int32} {y : α} (h : ∀ i, i < v → f i = F (g i)) (hx : x = F y) : ∀ i, i < v + 1 → upd f v x i = F (va_up g v y i) := fun i hi => by
  by_cases e : i = v
  · rw [e, upd_at, va_us, hx]
  · rw [upd_ne e, va_un e]
    exact h i (by omega)
def CRd (w : ab_W) (q : Nat) (S : KS) : Prop := w q = oKit q (nI (sR S)) (nI (sW S)) (nI (sP S)) (nI (sN S)) ∧ (∃ fn fo fu, w (q + 1) = aI 24 fn ∧ w (q + 2) = aI 24 fo ∧ w (q + 3) = aI 24 fu ∧ NmP (sLo S) (sN S) fn fo fu) ∧ (∃ f, w (q + 4) = aI 4 f ∧ ∀ i, i < sR S → f i = nI (sRt S i)) ∧ (∃ f, w (q + 5) = aI 12 f ∧ ∀ i, i < sW S → f i = nI (sWt S i)) ∧ (∃ f, w (q + 7) = aI 12 f ∧ ∀ i, i < sW S → f i = nI (kHt (sK S) i)) ∧ CKit w q (sK S) (sR S) (sW S) (sP S)
/-- a kit's cells, whatever they hold -/
def CSh (w : ab_W) (q : Nat) : Prop := (∃ a b c d, w q = oKit q a b c d) ∧ (∃ f, w (q + 1) = aI 24 f) ∧ (∃ f, w (q + 2) = aI 24 f) ∧ (∃ f, w (q + 3) = aI 24 f) ∧ (∃ f, w (q + 4) = aI 4 f) ∧ (∃ f, w (q + 5) = aI 12 f) ∧ (∃ f, w (q + 6) = aI 12 f) ∧ (∃ f, w (q + 7) = aI 12 f) ∧ (∃ f, w (q + 8) = aI 12 f) ∧ (∃ f, w (q + 9) = aI 12 f) ∧ (∃ f, w (q + 10) = aI 12 f) ∧ (∃ f, w (q + 11) = aI 12 f) ∧ (∃ f, w (q + 12) = aI 12 f) ∧ (∃ f, w (q + 13) = aI 8 f) ∧ ∃ f, w (q + 14) = aI 8 f
def FKt (q k : Nat) : Prop := q ≤ k ∧ k ≤ q + 14
theorem CRd.fr {F : Nat → Prop} {w w' : ab_W} {q : Nat} {S : KS} (h : CRd w q S) (hf : Fr F w w') (hF : ∀ k, F k → ¬ FKt q k) : CRd w' q S := by
  have e : ∀ j, j ≤ 14 → w' (q + j) = w (q + j) := fun j hj => hf _ (fun z => hF _ z ⟨by omega, by omega⟩)
  have e0 : w' q = w q := e 0 (by omega)
  obtain ⟨h1, ⟨a, b, c, h2, h3, h4, h5⟩, h6, h7, h8, k0, k6, k8, k9, k10, k11, k12, k13, k14⟩ := h
  refine ⟨e0.trans h1, ⟨a, b, c, (e 1 (by omega)).trans h2, (e 2 (by omega)).trans h3, (e 3 (by omega)).trans h4, h5⟩, ?_, ?_, ?_, ?_, ?_, ?_, ?_, ?_, ?_, ?_, ?_, ?_⟩
  · rw [e 4 (by omega)]; exact h6
  · rw [e 5 (by omega)]; exact h7
  · rw [e 7 (by omega)]; exact h8
  · rw [e0]; exact k0
  · rw [e 6 (by omega)]; exact k6
  · rw [e 8 (by omega)]; exact k8
  · rw [e 9 (by omega)]; exact k9
  · rw [e 10 (by omega)]; exact k10
  · rw [e 11 (by omega)]; exact k11
  · rw [e 12 (by omega)]; exact k12
  · rw [e 13 (by omega)]; exact k13
  · rw [e 14 (by omega)]; exact k14
theorem CRd.sh {w : ab_W} {q : Nat} {S : KS} (h : CRd w q S) : CSh w q := by
  obtain ⟨h1, ⟨a, b, c, h2, h3, h4, h5⟩, ⟨_, h6, _⟩, ⟨_, h7, _⟩, ⟨_, h8, _⟩, k0, ⟨_, k6, _⟩, ⟨_, k8, _⟩, ⟨_, k9, _⟩, ⟨_, k10, _⟩, ⟨_, k11, _⟩, ⟨_, k12, _⟩, ⟨_, k13, _⟩, ⟨_, k14, _⟩⟩ := h
  exact ⟨⟨_, _, _, _, h1⟩, ⟨_, h2⟩, ⟨_, h3⟩, ⟨_, h4⟩, ⟨_, h6⟩, ⟨_, h7⟩, ⟨_, k6⟩, ⟨_, h8⟩, ⟨_, k8⟩, ⟨_, k9⟩, ⟨_, k10⟩, ⟨_, k11⟩, ⟨_, k12⟩, ⟨_, k13⟩, ⟨_, k14⟩⟩
theorem CSh.fr {F : Nat → Prop} {w w' : ab_W} {q : Nat} (h : CSh w q) (hf : Fr F w w') (hF : ∀ k, F k → ¬ FKt q k) : CSh w' q := by
  have e : ∀ j, j ≤ 14 → w' (q + j) = w (q + j) := fun j hj => hf _ (fun z => hF _ z ⟨by omega, by omega⟩)
  have e0 : w' q = w q := e 0 (by omega)
  unfold CSh at h ⊢
  rw [e0, e 1 (by omega), e 2 (by omega), e 3 (by omega), e 4 (by omega), e 5 (by omega), e 6 (by omega), e 7 (by omega), e 8 (by omega), e 9 (by omega), e 10 (by omega), e 11 (by omega), e 12 (by omega), e 13 (by omega), e 14 (by omega)]
  exact h
def KSz : KS := ((0, 0, 0), fun _ => none, fun _ => 0, fun _ => 0, (fun _ => none, fun _ => nI 0, fun _ => nI 0, fun _ => nI 0, fun _ => nI 0, fun _ => nI 0, fun _ => 0, fun _ => nI 0, fun _ => 0))
theorem KSz_ok : KSok KSz := by
  have e1 : sR KSz = 0 := rfl
  have e2 : sW KSz = 0 := rfl
  have e3 : sP KSz = 0 := rfl
  refine ⟨⟨by omega, by omega, by omega⟩, fun i hi => absurd hi (by omega), fun i hi => absurd hi (by omega), ⟨⟨by omega, by omega⟩, fun v hv => absurd hv (by omega), fun p hp => absurd hp (by omega)⟩, fun c x hx => ?_⟩
  have hx : (none : Option (Nat × Nat)) = some x := hx
  cases hx
section CKITS
variable {X : ab_X} {l : Launch}
theorem k_Kit_clear_44 (w : ab_W) (n : Nat) (h : CSh w 44) : ab_C X l i_Kit_clear [.ref 44] w n 0 0 (qV (fun w' n' => n = n' ∧ Fr (FKt 44) w w' ∧ CRd w' 44 KSz)) := by
  obtain ⟨⟨a, b, c, d, h0⟩, ⟨f1, h1⟩, ⟨f2, h2⟩, ⟨f3, h3⟩, ⟨f4, h4⟩, ⟨f5, h5⟩, ⟨f6, h6⟩, ⟨f7, h7⟩, ⟨f8, h8⟩, ⟨f9, h9⟩, ⟨f10, h10⟩, ⟨f11, h11⟩, ⟨f12, h12⟩, ⟨f13, h13⟩, ⟨f14, h14⟩⟩ := h
  obtain ⟨w, rfl⟩ := va_ex h0
  refine ab_mqV cd_6 om_6 rfl rfl (ab_sound ok_6 [] 80 ?_)
  have z : ∀ {P : Nat → Prop} (i : Nat), i < 0 → P i := fun i hi => absurd hi (by omega)
  refine ⟨rfl, rfl, (((Fr.refl.up ⟨by omega, by omega⟩).up ⟨by omega, by omega⟩).up ⟨by omega, by omega⟩).up ⟨by omega, by omega⟩, rfl, ⟨f1, f2, f3, h1, h2, h3, fun i hi => absurd hi (by show ¬ i < 0; omega), fun c x hx => ?_⟩, ⟨f4, h4, z⟩, ⟨f5, h5, z⟩, ⟨f7, h7, z⟩, ⟨_, rfl⟩, ⟨f6, h6, z⟩, ⟨f8, h8, z⟩, ⟨f9, h9, z⟩, ⟨f10, h10, z⟩, ⟨f11, h11, z⟩, ⟨f12, h12, z⟩, ⟨f13, h13, z⟩, ⟨f14, h14, z⟩⟩
  have hx : (none : Option (Nat × Nat)) = some x := hx
  cases hx
theorem c_Kit_entryOf_y_44 (x : Int32) (i N : Nat) (w : ab_W) (n : Nat) {a b c : Int32} {fn : Nat → Int32} (hi : i < N) (hN : N ≤ 24) (hx : fn i = x) (hl : ∀ j, j < i → fn j ≠ x) (h0 : w 44 = oKit 44 a b c (nI N)) (h1 : w 45 = aI 24 fn) : ab_C X l i_Kit_entryOf [.ref 44, .int x] w n 0 0 (ab_q1 (some (.int (nI i))) w n) := by
  obtain ⟨w, rfl⟩ := va_ex2 h0 h1
  refine ab_metI cd_7 om_7 rfl (ab_sound ok_7 [2] 80 ?_)
  have loop : ∀ j, j ≤ i → ab_Ev X l i_Kit_entryOf 2 [some (.ref 44), some (.int x), some (.int (nI j))] [] (va_up (va_up w 45 (aI 24 fn)) 44 (oKit 44 a b c (nI N))) n 0 0 (ab_q1 (some (.int (nI i))) (va_up (va_up w 45 (aI 24 fn)) 44 (oKit 44 a b c (nI N))) n) := by
    refine ab_up i ?_ (fun j hj ih => ?_)
    · refine ab_sound ok_7 [2] 80 ?_
      refine And.intro (fun h_9 => absurd h_9 (nI_ge hi (by omega))) (fun _ => ?_)
      refine And.intro (vp_in_nI (show i < 24 by omega) (by omega)) ?_
      refine And.intro (fun h_9 => absurd ((by rw [nI_clamp (by omega)]; exact hx)) h_9) (fun _ => ?_)
      exact ⟨rfl, rfl, rfl⟩
    · refine ab_sound ok_7 [2] 80 ?_
      refine And.intro (fun h_9 => absurd h_9 (nI_ge (show j < N by omega) (by omega))) (fun _ => ?_)
      refine And.intro (vp_in_nI (show j < 24 by omega) (by omega)) ?_
      refine And.intro (fun _ => ?_) (fun h_9 => absurd h_9 ((by rw [nI_clamp (by omega)]; exact hl j hj)))
      exact ab_ev_of ih (by rw [nI_s j]; rfl) rfl rfl
  exact ab_ev_of (loop 0 (by omega)) rfl rfl rfl
theorem c_Kit_entryOf_n_44 (x : Int32) (N : Nat) (w : ab_W) (n : Nat) {a b c : Int32} {fn : Nat → Int32} (hN : N ≤ 24) (hl : ∀ j, j < N → fn j ≠ x) (h0 : w 44 = oKit 44 a b c (nI N)) (h1 : w 45 = aI 24 fn) : ab_C X l i_Kit_entryOf [.ref 44, .int x] w n 0 0 (ab_q1 (some (.int (-nI 1))) w n) := by
  obtain ⟨w, rfl⟩ := va_ex2 h0 h1
  refine ab_metI cd_7 om_7 rfl (ab_sound ok_7 [2] 80 ?_)
  have loop : ∀ j, j ≤ N → ab_Ev X l i_Kit_entryOf 2 [some (.ref 44), some (.int x), some (.int (nI j))] [] (va_up (va_up w 45 (aI 24 fn)) 44 (oKit 44 a b c (nI N))) n 0 0 (ab_q1 (some (.int (-nI 1))) (va_up (va_up w 45 (aI 24 fn)) 44 (oKit 44 a b c (nI N))) n) := by
    refine ab_up N ?_ (fun j hj ih => ?_)
    · refine ab_sound ok_7 [2] 80 ?_
      refine And.intro (fun _ => ?_) (fun h_9 => absurd (nI_le (Nat.le_refl _) (by omega)) h_9)
      exact ⟨rfl, rfl, rfl⟩
    · refine ab_sound ok_7 [2] 80 ?_
      refine And.intro (fun h_9 => absurd h_9 (nI_ge hj (by omega))) (fun _ => ?_)
      refine And.intro (vp_in_nI (show j < 24 by omega) (by omega)) ?_
      refine And.intro (fun _ => ?_) (fun h_9 => absurd h_9 ((by rw [nI_clamp (by omega)]; exact hl j hj)))
      exact ab_ev_of ih (by rw [nI_s j]; rfl) rfl rfl
  exact ab_ev_of (loop 0 (by omega)) rfl rfl rfl
theorem c_Kit_addName_44 (x y z : Int32) (N : Nat) (w : ab_W) (n : Nat) {a b c : Int32} {fn fo fu : Nat → Int32} (hN : N < 24) (h0 : w 44 = oKit 44 a b c (nI N)) (h1 : w 45 = aI 24 fn) (h2 : w 46 = aI 24 fo) (h3 : w 47 = aI 24 fu) : ab_C X l i_Kit_addName [.ref 44, .int x, .int y, .int z] w n 0 0 (ab_q1 none (va_up (va_up (va_up (va_up w 44 (oKit 44 a b c (nI (N + 1)))) 45 (aI 24 (upd fn N x))) 46 (aI 24 (upd fo N y))) 47 (aI 24 (upd fu N z))) n) := by
  obtain ⟨w, rfl⟩ := va_ex4 h0 h1 h2 h3
  refine ab_metV cd_9 om_9 rfl rfl (ab_sound ok_9 [] 80 ?_)
  refine And.intro (fun h_9 => absurd h_9 (nI_ge hN (by omega))) (fun _ => ?_)
  refine And.intro (vp_in_nI hN (by omega)) ?_
  rw [nI_clamp (by omega)]
  refine And.intro (vp_in_nI hN (by omega)) ?_
  rw [nI_clamp (by omega)]
  refine And.intro (vp_in_nI hN (by omega)) ?_
  rw [nI_clamp (by omega)]
  refine ⟨rfl, ?_, rfl⟩
  rw [nI_s N]
  simp only [Nat.reduceAdd, va_uu, va_uc, Nat.reduceLT]
  rfl
theorem k_Kit_addRing_44 (c t : Nat) (w : ab_W) (n : Nat) {x y : Int32} {S : KS} (hx : x = nI c) (hy : y = nI t) (hS : KSok S) (hc : sLo S c = none) (h4 : sR S < 4) (h : CRd w 44 S) : ab_C X l i_Kit_addRing [.ref 44, .int x, .int y] w n 0 0 (qV (fun w' n' => n = n' ∧ Fr (FKt 44) w w' ∧ CRd w' 44 (adR S c t))) := by
  subst hx hy
  have hN : sN S < 24 := by have := hS.1; unfold sN; omega
  obtain ⟨h0, ⟨fn, fo, fu, h1, h2, h3, hn⟩, ⟨f4, h4a, h4b⟩, h5, h7, -, k6, k8, k9, k10, k11, k12, k13, k14⟩ := h
  have e0 : sN (adR S c t) = sN S + 1 := by unfold sN; show sR S + 1 + sW S + sP S = _; omega
  obtain ⟨w, rfl⟩ : ∃ w0, w = va_up (va_up (va_up (va_up (va_up w0 48 (aI 4 f4)) 47 (aI 24 fu)) 46 (aI 24 fo)) 45 (aI 24 fn)) 44 (oKit 44 (nI (sR S)) (nI (sW S)) (nI (sP S)) (nI (sN S))) := ⟨w, by rw [← va_self h4a, ← va_self h3, ← va_self h2, ← va_self h1, ← va_self h0]⟩
  refine ab_mqV cd_8 om_8 rfl rfl (ab_sound ok_8 [] 80 ?_)
  refine And.intro (fun h_9 => absurd h_9 (nI_ge h4 (by omega))) (fun _ => ?_)
  (refine Exists.intro 0 ?_; refine ⟨0, _, Nat.zero_le _, Nat.zero_le _, c_Kit_addName_44 _ _ _ (sN S) _ _ hN rfl rfl rfl rfl, ?_⟩; refine ab_q1_elim ?_)
  refine And.intro (vp_in_nI (show sR S < 4 by omega) (by omega)) ?_
  rw [nI_clamp (by omega)]
  refine ⟨rfl, rfl, ?_, ?_, ⟨_, _, _, rfl, rfl, rfl, ?_⟩, ⟨_, rfl, up_ex (F := nI) h4b rfl⟩, h5, h7, ⟨nI (sN S + 1), ?_⟩, k6, k8, k9, k10, k11, k12, k13, k14⟩
  · exact (((((Fr.refl.up ⟨by omega, by omega⟩).up ⟨by omega, by omega⟩).up ⟨by omega, by omega⟩).up ⟨by omega, by omega⟩).up ⟨by omega, by omega⟩).up ⟨by omega, by omega⟩
  · rw [e0]
    show _ = oKit 44 (nI (sR S + 1)) (nI (sW S)) (nI (sP S)) (nI (sN S + 1))
    rw [nI_s (sR S)]
    rfl
  · rw [e0]
    exact nm_add hn hc
  · show _ = oKit 44 (nI (sR S + 1)) (nI (sW S)) (nI (sP S)) (nI (sN S + 1))
    rw [nI_s (sR S)]
    rfl
theorem k_Kit_addPen_44 (c v : Nat) (u : Int) (w : ab_W) (n : Nat) {x y z : Int32} {S : KS} (hx : x = nI c) (hy : y = nI v) (hz : z = Int32.ofInt u) (hS : KSok S) (hc : sLo S c = none) (h4 : sP S < 8) (h : CRd w 44 S) : ab_C X l i_Kit_addPen [.ref 44, .int x, .int y, .int z] w n 0 0 (qV (fun w' n' => n = n' ∧ Fr (FKt 44) w w' ∧ CRd w' 44 (adP S c v u))) := by
  subst hx hy hz
  have hN : sN S < 24 := by have := hS.1; unfold sN; omega
  obtain ⟨h0, ⟨fn, fo, fu, h1, h2, h3, hn⟩, h4a, h5, h7, -, k6, k8, k9, k10, k11, k12, ⟨f13, k13, k13b⟩, ⟨f14, k14, k14b⟩⟩ := h
  have e0 : sN (adP S c v u) = sN S + 1 := by unfold sN; show sR S + sW S + (sP S + 1) = _; omega
  obtain ⟨w, rfl⟩ : ∃ w0, w = va_up (va_up (va_up (va_up (va_up (va_up w0 58 (aI 8 f14)) 57 (aI 8 f13)) 47 (aI 24 fu)) 46 (aI 24 fo)) 45 (aI 24 fn)) 44 (oKit 44 (nI (sR S)) (nI (sW S)) (nI (sP S)) (nI (sN S))) := ⟨w, by rw [← va_self k14, ← va_self k13, ← va_self h3, ← va_self h2, ← va_self h1, ← va_self h0]⟩
  refine ab_mqV cd_11 om_11 rfl rfl (ab_sound ok_11 [] 80 ?_)
  refine And.intro (fun h_9 => absurd h_9 (nI_ge h4 (by omega))) (fun _ => ?_)
  (refine Exists.intro 0 ?_; refine ⟨0, _, Nat.zero_le _, Nat.zero_le _, c_Kit_addName_44 _ _ _ (sN S) _ _ hN rfl rfl rfl rfl, ?_⟩; refine ab_q1_elim ?_)
  refine And.intro (vp_in_nI (show sP S < 8 by omega) (by omega)) ?_
  rw [nI_clamp (by omega)]
  refine And.intro (vp_in_nI (show sP S < 8 by omega) (by omega)) ?_
  rw [nI_clamp (by omega)]
  refine ⟨rfl, rfl, ?_, ?_, ⟨_, _, _, rfl, rfl, rfl, ?_⟩, h4a, h5, h7, ⟨nI (sN S + 1), ?_⟩, k6, k8, k9, k10, k11, k12, ⟨_, rfl, up_ex (F := nI) k13b rfl⟩, ⟨_, rfl, up_ex (F := id) k14b rfl⟩⟩
  · exact ((((((Fr.refl.up ⟨by omega, by omega⟩).up ⟨by omega, by omega⟩).up ⟨by omega, by omega⟩).up ⟨by omega, by omega⟩).up ⟨by omega, by omega⟩).up ⟨by omega, by omega⟩).up ⟨by omega, by omega⟩
  · rw [e0]
    show _ = oKit 44 (nI (sR S)) (nI (sW S)) (nI (sP S + 1)) (nI (sN S + 1))
    rw [nI_s (sP S)]
    rfl
  · rw [e0]
    exact nm_add hn hc
  · show _ = oKit 44 (nI (sR S)) (nI (sW S)) (nI (sP S + 1)) (nI (sN S + 1))
    rw [nI_s (sP S)]
    rfl
theorem k_Kit_clear_59 (w : ab_W) (n : Nat) (h : CSh w 59) : ab_C X l i_Kit_clear [.ref 59] w n 0 0 (qV (fun w' n' => n = n' ∧ Fr (FKt 59) w w' ∧ CRd w' 59 KSz)) := by
  obtain ⟨⟨a, b, c, d, h0⟩, ⟨f1, h1⟩, ⟨f2, h2⟩, ⟨f3, h3⟩, ⟨f4, h4⟩, ⟨f5, h5⟩, ⟨f6, h6⟩, ⟨f7, h7⟩, ⟨f8, h8⟩, ⟨f9, h9⟩, ⟨f10, h10⟩, ⟨f11, h11⟩, ⟨f12, h12⟩, ⟨f13, h13⟩, ⟨f14, h14⟩⟩ := h
  obtain ⟨w, rfl⟩ := va_ex h0
  refine ab_mqV cd_6 om_6 rfl rfl (ab_sound ok_6 [] 80 ?_)
  have z : ∀ {P : Nat → Prop} (i : Nat), i < 0 → P i := fun i hi => absurd hi (by omega)
  refine ⟨rfl, rfl, (((Fr.refl.up ⟨by omega, by omega⟩).up ⟨by omega, by omega⟩).up ⟨by omega, by omega⟩).up ⟨by omega, by omega⟩, rfl, ⟨f1, f2, f3, h1, h2, h3, fun i hi => absurd hi (by show ¬ i < 0; omega), fun c x hx => ?_⟩, ⟨f4, h4, z⟩, ⟨f5, h5, z⟩, ⟨f7, h7, z⟩, ⟨_, rfl⟩, ⟨f6, h6, z⟩, ⟨f8, h8, z⟩, ⟨f9, h9, z⟩, ⟨f10, h10, z⟩, ⟨f11, h11, z⟩, ⟨f12, h12, z⟩, ⟨f13, h13, z⟩, ⟨f14, h14, z⟩⟩
  have hx : (none : Option (Nat × Nat)) = some x := hx
  cases hx
theorem c_Kit_entryOf_y_59 (x : Int32) (i N : Nat) (w : ab_W) (n : Nat) {a b c : Int32} {fn : Nat → Int32} (hi : i < N) (hN : N ≤ 24) (hx : fn i = x) (hl : ∀ j, j < i → fn j ≠ x) (h0 : w 59 = oKit 59 a b c (nI N)) (h1 : w 60 = aI 24 fn) : ab_C X l i_Kit_entryOf [.ref 59, .int x] w n 0 0 (ab_q1 (some (.int (nI i))) w n) := by
  obtain ⟨w, rfl⟩ := va_ex2 h0 h1
  refine ab_metI cd_7 om_7 rfl (ab_sound ok_7 [2] 80 ?_)
  have loop : ∀ j, j ≤ i → ab_Ev X l i_Kit_entryOf 2 [some (.ref 59), some (.int x), some (.int (nI j))] [] (va_up (va_up w 60 (aI 24 fn)) 59 (oKit 59 a b c (nI N))) n 0 0 (ab_q1 (some (.int (nI i))) (va_up (va_up w 60 (aI 24 fn)) 59 (oKit 59 a b c (nI N))) n) := by
    refine ab_up i ?_ (fun j hj ih => ?_)
    · refine ab_sound ok_7 [2] 80 ?_
      refine And.intro (fun h_9 => absurd h_9 (nI_ge hi (by omega))) (fun _ => ?_)
      refine And.intro (vp_in_nI (show i < 24 by omega) (by omega)) ?_
      refine And.intro (fun h_9 => absurd ((by rw [nI_clamp (by omega)]; exact hx)) h_9) (fun _ => ?_)
      exact ⟨rfl, rfl, rfl⟩
    · refine ab_sound ok_7 [2] 80 ?_
      refine And.intro (fun h_9 => absurd h_9 (nI_ge (show j < N by omega) (by omega))) (fun _ => ?_)
      refine And.intro (vp_in_nI (show j < 24 by omega) (by omega)) ?_
      refine And.intro (fun _ => ?_) (fun h_9 => absurd h_9 ((by rw [nI_clamp (by omega)]; exact hl j hj)))
      exact ab_ev_of ih (by rw [nI_s j]; rfl) rfl rfl
  exact ab_ev_of (loop 0 (by omega)) rfl rfl rfl
theorem c_Kit_entryOf_n_59 (x : Int32) (N : Nat) (w : ab_W) (n : Nat) {a b c : Int32} {fn : Nat → Int32} (hN : N ≤ 24) (hl : ∀ j, j < N → fn j ≠ x) (h0 : w 59 = oKit 59 a b c (nI N)) (h1 : w 60 = aI 24 fn) : ab_C X l i_Kit_entryOf [.ref 59, .int x] w n 0 0 (ab_q1 (some (.int (-nI 1))) w n) := by
  obtain ⟨w, rfl⟩ := va_ex2 h0 h1
  refine ab_metI cd_7 om_7 rfl (ab_sound ok_7 [2] 80 ?_)
  have loop : ∀ j, j ≤ N → ab_Ev X l i_Kit_entryOf 2 [some (.ref 59), some (.int x), some (.int (nI j))] [] (va_up (va_up w 60 (aI 24 fn)) 59 (oKit 59 a b c (nI N))) n 0 0 (ab_q1 (some (.int (-nI 1))) (va_up (va_up w 60 (aI 24 fn)) 59 (oKit 59 a b c (nI N))) n) := by
    refine ab_up N ?_ (fun j hj ih => ?_)
    · refine ab_sound ok_7 [2] 80 ?_
      refine And.intro (fun _ => ?_) (fun h_9 => absurd (nI_le (Nat.le_refl _) (by omega)) h_9)
      exact ⟨rfl, rfl, rfl⟩
    · refine ab_sound ok_7 [2] 80 ?_
      refine And.intro (fun h_9 => absurd h_9 (nI_ge hj (by omega))) (fun _ => ?_)
      refine And.intro (vp_in_nI (show j < 24 by omega) (by omega)) ?_
      refine And.intro (fun _ => ?_) (fun h_9 => absurd h_9 ((by rw [nI_clamp (by omega)]; exact hl j hj)))
      exact ab_ev_of ih (by rw [nI_s j]; rfl) rfl rfl
  exact ab_ev_of (loop 0 (by omega)) rfl rfl rfl
theorem c_Kit_addName_59 (x y z : Int32) (N : Nat) (w : ab_W) (n : Nat) {a b c : Int32} {fn fo fu : Nat → Int32} (hN : N < 24) (h0 : w 59 = oKit 59 a b c (nI N)) (h1 : w 60 = aI 24 fn) (h2 : w 61 = aI 24 fo) (h3 : w 62 = aI 24 fu) : ab_C X l i_Kit_addName [.ref 59, .int x, .int y, .int z] w n 0 0 (ab_q1 none (va_up (va_up (va_up (va_up w 59 (oKit 59 a b c (nI (N + 1)))) 60 (aI 24 (upd fn N x))) 61 (aI 24 (upd fo N y))) 62 (aI 24 (upd fu N z))) n) := by
  obtain ⟨w, rfl⟩ := va_ex4 h0 h1 h2 h3
  refine ab_metV cd_9 om_9 rfl rfl (ab_sound ok_9 [] 80 ?_)
  refine And.intro (fun h_9 => absurd h_9 (nI_ge hN (by omega))) (fun _ => ?_)
  refine And.intro (vp_in_nI hN (by omega)) ?_
  rw [nI_clamp (by omega)]
  refine And.intro (vp_in_nI hN (by omega)) ?_
  rw [nI_clamp (by omega)]
  refine And.intro (vp_in_nI hN (by omega)) ?_
  rw [nI_clamp (by omega)]
  refine ⟨rfl, ?_, rfl⟩
  rw [nI_s N]
  simp only [Nat.reduceAdd, va_uu, va_uc, Nat.reduceLT]
  rfl
theorem k_Kit_addRing_59 (c t : Nat) (w : ab_W) (n : Nat) {x y : Int32} {S : KS} (hx : x = nI c) (hy : y = nI t) (hS : KSok S) (hc : sLo S c = none) (h4 : sR S < 4) (h : CRd w 59 S) : ab_C X l i_Kit_addRing [.ref 59, .int x, .int y] w n 0 0 (qV (fun w' n' => n = n' ∧ Fr (FKt 59) w w' ∧ CRd w' 59 (adR S c t))) := by
  subst hx hy
  have hN : sN S < 24 := by have := hS.1; unfold sN; omega
  obtain ⟨h0, ⟨fn, fo, fu, h1, h2, h3, hn⟩, ⟨f4, h4a, h4b⟩, h5, h7, -, k6, k8, k9, k10, k11, k12, k13, k14⟩ := h
  have e0 : sN (adR S c t) = sN S + 1 := by unfold sN; show sR S + 1 + sW S + sP S = _; omega
  obtain ⟨w, rfl⟩ : ∃ w0, w = va_up (va_up (va_up (va_up (va_up w0 63 (aI 4 f4)) 62 (aI 24 fu)) 61 (aI 24 fo)) 60 (aI 24 fn)) 59 (oKit 59 (nI (sR S)) (nI (sW S)) (nI (sP S)) (nI (sN S))) := ⟨w, by rw [← va_self h4a, ← va_self h3, ← va_self h2, ← va_self h1, ← va_self h0]⟩
  refine ab_mqV cd_8 om_8 rfl rfl (ab_sound ok_8 [] 80 ?_)
  refine And.intro (fun h_9 => absurd h_9 (nI_ge h4 (by omega))) (fun _ => ?_)
  (refine Exists.intro 0 ?_; refine ⟨0, _, Nat.zero_le _, Nat.zero_le _, c_Kit_addName_59 _ _ _ (sN S) _ _ hN rfl rfl rfl rfl, ?_⟩; refine ab_q1_elim ?_)
  refine And.intro (vp_in_nI (show sR S < 4 by omega) (by omega)) ?_
  rw [nI_clamp (by omega)]
  refine ⟨rfl, rfl, ?_, ?_, ⟨_, _, _, rfl, rfl, rfl, ?_⟩, ⟨_, rfl, up_ex (F := nI) h4b rfl⟩, h5, h7, ⟨nI (sN S + 1), ?_⟩, k6, k8, k9, k10, k11, k12, k13, k14⟩
  · exact (((((Fr.refl.up ⟨by omega, by omega⟩).up ⟨by omega, by omega⟩).up ⟨by omega, by omega⟩).up ⟨by omega, by omega⟩).up ⟨by omega, by omega⟩).up ⟨by omega, by omega⟩
  · rw [e0]
    show _ = oKit 59 (nI (sR S + 1)) (nI (sW S)) (nI (sP S)) (nI (sN S + 1))
    rw [nI_s (sR S)]
    rfl
  · rw [e0]
    exact nm_add hn hc
  · show _ = oKit 59 (nI (sR S + 1)) (nI (sW S)) (nI (sP S)) (nI (sN S + 1))
    rw [nI_s (sR S)]
    rfl
theorem k_Kit_addPen_59 (c v : Nat) (u : Int) (w : ab_W) (n : Nat) {x y z : Int32} {S : KS} (hx : x = nI c) (hy : y = nI v) (hz : z = Int32.ofInt u) (hS : KSok S) (hc : sLo S c = none) (h4 : sP S < 8) (h : CRd w 59 S) : ab_C X l i_Kit_addPen [.ref 59, .int x, .int y, .int z] w n 0 0 (qV (fun w' n' => n = n' ∧ Fr (FKt 59) w w' ∧ CRd w' 59 (adP S c v u))) := by
  subst hx hy hz
  have hN : sN S < 24 := by have := hS.1; unfold sN; omega
  obtain ⟨h0, ⟨fn, fo, fu, h1, h2, h3, hn⟩, h4a, h5, h7, -, k6, k8, k9, k10, k11, k12, ⟨f13, k13, k13b⟩, ⟨f14, k14, k14b⟩⟩ := h
  have e0 : sN (adP S c v u) = sN S + 1 := by unfold sN; show sR S + sW S + (sP S + 1) = _; omega
  obtain ⟨w, rfl⟩ : ∃ w0, w = va_up (va_up (va_up (va_up (va_up (va_up w0 73 (aI 8 f14)) 72 (aI 8 f13)) 62 (aI 24 fu)) 61 (aI 24 fo)) 60 (aI 24 fn)) 59 (oKit 59 (nI (sR S)) (nI (sW S)) (nI (sP S)) (nI (sN S))) := ⟨w, by rw [← va_self k14, ← va_self k13, ← va_self h3, ← va_self h2, ← va_self h1, ← va_self h0]⟩
  refine ab_mqV cd_11 om_11 rfl rfl (ab_sound ok_11 [] 80 ?_)
  refine And.intro (fun h_9 => absurd h_9 (nI_ge h4 (by omega))) (fun _ => ?_)
  (refine Exists.intro 0 ?_; refine ⟨0, _, Nat.zero_le _, Nat.zero_le _, c_Kit_addName_59 _ _ _ (sN S) _ _ hN rfl rfl rfl rfl, ?_⟩; refine ab_q1_elim ?_)
  refine And.intro (vp_in_nI (show sP S < 8 by omega) (by omega)) ?_
  rw [nI_clamp (by omega)]
  refine And.intro (vp_in_nI (show sP S < 8 by omega) (by omega)) ?_
  rw [nI_clamp (by omega)]
  refine ⟨rfl, rfl, ?_, ?_, ⟨_, _, _, rfl, rfl, rfl, ?_⟩, h4a, h5, h7, ⟨nI (sN S + 1), ?_⟩, k6, k8, k9, k10, k11, k12, ⟨_, rfl, up_ex (F := nI) k13b rfl⟩, ⟨_, rfl, up_ex (F := id) k14b rfl⟩⟩
  · exact ((((((Fr.refl.up ⟨by omega, by omega⟩).up ⟨by omega, by omega⟩).up ⟨by omega, by omega⟩).up ⟨by omega, by omega⟩).up ⟨by omega, by omega⟩).up ⟨by omega, by omega⟩).up ⟨by omega, by omega⟩
  · rw [e0]
    show _ = oKit 59 (nI (sR S)) (nI (sW S)) (nI (sP S + 1)) (nI (sN S + 1))
    rw [nI_s (sP S)]
    rfl
  · rw [e0]
    exact nm_add hn hc
  · show _ = oKit 59 (nI (sR S)) (nI (sW S)) (nI (sP S + 1)) (nI (sN S + 1))
    rw [nI_s (sP S)]
    rfl
end CKITS
