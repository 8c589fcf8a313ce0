section MADE2
variable {X : ab_X} {l : Launch}
/-- the tape's bytes are the box's -/
def Gf (tb : Nat → Int32) : Nat → Nat := tN tb
def Tf (tb : Nat → Int32) (R : Nat) : Nat → Nat := fun j => tN tb (R + j)
theorem e_made (x y : Int32) (R W : Nat) (w : ab_W) (n : Nat) {N : Nat → Nat} {Rr : Nat → Nat → Nat → Int64} {kn ks : Nat} {lf a b c d e kp ch cs wy : Int32} {tb arm pl a1 a2 a3 a4 : Nat → Int32} {sp c32 : Nat → Int64} {Q : ab_Q} (hy : y = nI R) (hR : 1 ≤ R ∧ R ≤ 12) (hW : 1 ≤ W ∧ W ≤ 12) (hb : ∀ i, i < R + W → nI 3 ≤ tb i ∧ tb i ≤ nI 200) (h : KC w n kn ks lf N Rr) (h1 : w 1 = oTape (nI (R + W)) a b c d e) (h2 : w 2 = aI 640 tb) (hT : KT w kp ch cs arm sp pl c32) (hX : KX w wy a1 a2 a3 a4)
    (go : ∀ w2, Fr FD w w2 → KC w2 n kn ks lf N Rr → w2 1 = oTape (nI 0) a b c d e → KT w2 kp ch cs arm sp pl c32 → w2 33 = oBox (nI R) (nI W) wy → (∃ ra wa, w2 34 = aI 12 ra ∧ w2 35 = aI 12 wa ∧ (∀ i, i < R → ra i = tb i) ∧ ∀ j, j < W → wa j = tb (R + j)) → w2 36 = aI 40 a1 → w2 37 = aI 40 a2 → w2 38 = aI 40 a3 → w2 39 = aI 40 a4 → ab_Ev X l i_WP_made 28 [some (.ref 0), some (.int x), some (.int y), some (.int (nI 1)), none] [] w2 n 0 0 Q) :
    ab_Ev X l i_WP_made 0 (ab_en (ab_mx i_WP_made) [.ref 0, .int x, .int y]) [] w n 0 0 Q := by
  obtain ⟨⟨rg, wl, x33⟩, ⟨f34, x34⟩, ⟨f35, x35⟩, x36, x37, x38, x39⟩ := hX
  have h0 := h.1.1
  obtain ⟨w9, rfl⟩ := va_ex3 h0 h1 x33
  refine ab_sound ok_140 [28] 80 ?_
  (refine Exists.intro 0 ?_; refine ⟨0, _, Nat.zero_le _, Nat.zero_le _, k_take _ R W _ _ hy hR hW hb rfl h2 rfl x34 x35, ?_⟩; rintro _ w1 _ ⟨rfl, rfl, f1, f2, f3, f4, f5, f6, f7, f8⟩)
  have q0 : w1 0 = oWP kn ks lf := f1.get rfl (by omega)
  have q1 : w1 1 = oTape (nI (R + W)) a b c d e := f1.get rfl (by omega)
  have f9 : Fr (fun k => k = 1) w1 (va_up w1 1 (oTape (nI 0) a b c d e)) := Fr.refl.up rfl
  have f10 := f1.tr (H := fun k => k = 1 ∨ (33 ≤ k ∧ k ≤ 35)) f9 (fun k hk => by omega) (fun k hk => by omega)
  have hKC := h.fd (f10.mono (fun k hk => by omega)) (h.1.2.1.fr f10 (by omega) (by omega) (by omega)) (h.2.fr f10 (fun k hk => by omega))
  have go := go _ (f10.mono (fun k hk => by omega)) hKC va_us (hT.fr f10 (fun k hk => by omega)) (f9.get f2 (by omega)) ⟨f3, f4, f9.get f5 (by omega), f9.get f6 (by omega), f7, f8⟩ (f10.get x36 (by omega)) (f10.get x37 (by omega)) (f10.get x38 (by omega)) (f10.get x39 (by omega))
  obtain ⟨w1, rfl⟩ := va_ex2 q0 q1
  refine And.intro (fun _ => ?_) (fun h_9 => absurd h_9 ((by decide)))
  exact ab_ev_of go rfl rfl rfl
theorem k_WP_made_n (x y : Int32) (R W : Nat) (w : ab_W) (n : Nat) {N : Nat → Nat} {Rr : Nat → Nat → Nat → Int64} {kn ks : Nat} {lf a b c d e kp ch cs wy : Int32} {tb arm pl a1 a2 a3 a4 : Nat → Int32} {sp c32 : Nat → Int64} (hx : badS N x) (hy : y = nI R) (hR : 1 ≤ R ∧ R ≤ 12) (hW : 1 ≤ W ∧ W ≤ 12) (hb : ∀ i, i < R + W → nI 3 ≤ tb i ∧ tb i ≤ nI 200) (h : KC w n kn ks lf N Rr) (h1 : w 1 = oTape (nI (R + W)) a b c d e) (h2 : w 2 = aI 640 tb) (hT : KT w kp ch cs arm sp pl c32) (hX : KX w wy a1 a2 a3 a4) :
    ab_C X l i_WP_made [.ref 0, .int x, .int y] w n 0 0 (qI (-nI 1) fun w' n' => n = n' ∧ Fr FD w w' ∧ KC w' n' kn ks lf N Rr ∧ w' 1 = oTape (nI 0) a b c d e ∧ KT w' kp ch cs arm sp pl c32 ∧ KX w' wy a1 a2 a3 a4) := by
  refine ab_mqI cd_140 om_140 rfl (e_made x y R W w n hy hR hW hb h h1 h2 hT hX ?_)
  intro w2 f1 hK q1 hT2 x33 ⟨ra, wa, x34, x35, x8, x9⟩ x36 x37 x38 x39
  have hKC := hK
  obtain ⟨⟨h0, -, hS, -⟩, -⟩ := hK
  obtain ⟨w2, rfl⟩ := va_ex h0
  refine ab_sound ok_140 [] 80 ?_
  (refine Exists.intro 0 ?_; refine ⟨0, _, Nat.zero_le _, Nat.zero_le _, k_sheetThatIs_n _ _ _ hx h0 hS, ?_⟩; refine ab_q1_elim ?_)
  exact ⟨rfl, rfl, f1, hKC, q1, hT2, ⟨_, _, x33⟩, ⟨_, x34⟩, ⟨_, x35⟩, x36, x37, x38, x39⟩
theorem k_WP_made (x y : Int32) (t R W : Nat) (w : ab_W) (n : Nat) {N : Nat → Nat} {Rr : Nat → Nat → Nat → Int64} {kn ks : Nat} {lf a b c d e kp ch cs wy : Int32} {tb arm pl a1 a2 a3 a4 : Nat → Int32} {sp c32 : Nat → Int64} (hx : x = nI t) (ht : t < 8) (hN : N t ≠ 0) (hy : y = nI R) (hR : 1 ≤ R ∧ R ≤ 12) (hW : 1 ≤ W ∧ W ≤ 12) (hb : ∀ i, i < R + W → nI 3 ≤ tb i ∧ tb i ≤ nI 200) (h : KC w n kn ks lf N Rr) (h1 : w 1 = oTape (nI (R + W)) a b c d e) (h2 : w 2 = aI 640 tb) (hT : KT w kp ch cs arm sp pl c32) (hX : KX w wy a1 a2 a3 a4) :
    ab_C X l i_WP_made [.ref 0, .int x, .int y] w n 0 0 (fun v w' n' => n = n' ∧ Fr FD w w' ∧ KC w' n' kn ks lf N Rr ∧ w' 1 = oTape (nI 0) a b c d e ∧ KT w' kp ch cs arm sp pl c32 ∧ (((¬ ∃ f g, TwoP (N t) (TBv (N t) (Rr t)) f g) ∧ v = some (.int (-nI 1)) ∧ KX w' wy a1 a2 a3 a4) ∨ ((∃ f g, TwoP (N t) (TBv (N t) (Rr t)) f g) ∧ v = some (.int (nI (cnt (hP (N t) W (TBv (N t) (Rr t)) (Gf tb) (Tf tb R)) (R * W * 2)))) ∧ ∃ b1 b2 b3 b4, KX w' (nI (cnt (hP (N t) W (TBv (N t) (Rr t)) (Gf tb) (Tf tb R)) (R * W * 2))) b1 b2 b3 b4 ∧ MkIs (hP (N t) W (TBv (N t) (Rr t)) (Gf tb) (Tf tb R)) (wR W) (wW W) wO (hZ (N t) W (TBv (N t) (Rr t)) (Gf tb) (Tf tb R)) (R * W * 2) b1 b2 b3 b4))) := by
  refine ab_met cd_140 om_140 rfl ?_ (e_made x y R W w n hy hR hW hb h h1 h2 hT hX ?_)
  · rintro _ _ _ ⟨-, -, -, -, -, ⟨-, rfl, -⟩ | ⟨-, rfl, -⟩⟩ <;> trivial
  intro w2 f1 hK q1 hT2 x33 ⟨ra, wa, x34, x35, x8, x9⟩ x36 x37 x38 x39
  have hKC := hK
  obtain ⟨⟨h0, hK0, hS, g0, h43⟩, hO⟩ := hK
  obtain ⟨aa, hA, hM⟩ := hS.is ht hN
  obtain ⟨⟨n0, p0, mo, ma, t27⟩, ⟨g, t28⟩, t29, t30, t31, t32⟩ := hT2
  have hra : ∀ i, i < R → ra i = nI (Gf tb i) ∧ 3 ≤ Gf tb i ∧ Gf tb i ≤ 200 := fun i hi => by
    rw [x8 i hi]
    exact tN_at (hb i (by omega))
  have hwa : ∀ j, j < W → wa j = nI (Tf tb R j) ∧ 3 ≤ Tf tb R j ∧ Tf tb R j ≤ 200 := fun j hj => by
    rw [x9 j hj]
    exact tN_at (hb (R + j) (by omega))
  generalize hMe : N t = M at *
  obtain ⟨w2, rfl⟩ := va_ex3 h0 t27 x33
  refine ab_sound ok_140 [] 80 ?_
  (refine Exists.intro 0 ?_; refine ⟨0, _, Nat.zero_le _, Nat.zero_le _, k_sheetThatIs_y _ t _ _ hx ht (by omega) h0 hS, ?_⟩; refine ab_q1_elim ?_)
  (refine Exists.intro 0 ?_; refine ⟨0, _, Nat.zero_le _, Nat.zero_le _, k_readBack _ aa M _ _ hM hA hK0 rfl t28, ?_⟩; rintro _ w1 _ ⟨rfl, rfl, e1, e2, e3, g1, e4, e5⟩)
  have k0 : w1 0 = oWP kn ks lf := e1.get rfl (by omega)
  have k33 := e1.get x33 (by omega)
  have k34 := e1.get x34 (by omega)
  have k35 := e1.get x35 (by omega)
  have k36 := e1.get x36 (by omega)
  have k37 := e1.get x37 (by omega)
  have k38 := e1.get x38 (by omega)
  have k39 := e1.get x39 (by omega)
  have f2 := f1.tr (H := FD) e1 (fun k hk => hk) (fun k hk => by omega)
  have hKC1 := hKC.fd (e1.mono (fun k hk => by omega)) (Or.inr ⟨M, e2⟩) (hO.fr e1 (fun k hk => by omega))
  have k1 := e1.get q1 (by omega)
  have hT1 : KT w1 kp ch cs arm sp pl c32 := ⟨⟨_, _, _, _, e3⟩, ⟨_, e4⟩, e1.get t29 (by omega), e1.get t30 (by omega), e1.get t31 (by omega), e1.get t32 (by omega)⟩
  obtain ⟨w1, rfl⟩ := va_ex3 k0 e3 k33
  (refine Exists.intro 0 ?_; refine ⟨0, _, Nat.zero_le _, Nat.zero_le _, k_hasTwoPlain M _ _ hM e3 e4 e5, ?_⟩; rintro _ _ _ ⟨rfl, rfl, bb, rfl, hbb⟩)
  cases bb
  · refine And.intro (fun h_9 => absurd (rfl) h_9) (fun _ => ?_)
    exact ⟨rfl, f2, hKC1, k1, hT1, Or.inl ⟨fun z => (by have := hbb.mpr z; cases this), rfl, ⟨_, _, k33⟩, ⟨_, k34⟩, ⟨_, k35⟩, k36, k37, k38, k39⟩⟩
  · refine And.intro (fun _ => ?_) (fun h_9 => absurd h_9 ((by decide)))
    (refine Exists.intro 0 ?_; refine ⟨0, _, Nat.zero_le _, Nat.zero_le _, k_findWays R W M _ _ hR.2 hW.2 hM e3 e4 e5 k34 k35 hra hwa k33 k36 k37 k38 k39, ?_⟩; rintro _ w4 _ ⟨rfl, rfl, f4, f5, b1, b2, b3, b4, f6, f7, f8, f9, f10⟩)
    have v0 : w4 0 = oWP kn ks lf := f4.get k0 (by omega)
    have f3 := f2.tr (H := FD) f4 (fun k hk => hk) (fun k hk => by omega)
    have hKC4 := hKC1.fd (f4.mono (fun k hk => by omega)) (Or.inr ⟨M, e2.fr f4 (by omega) (by omega) (by omega)⟩) (hKC1.2.fr f4 (fun k hk => by omega))
    have v1 := f4.get k1 (by omega)
    have hT4 := hT1.fr f4 (fun k hk => by omega)
    have v34 := f4.get k34 (by omega)
    have v35 := f4.get k35 (by omega)
    obtain ⟨w4, rfl⟩ := va_ex2 v0 f5
    exact ⟨rfl, f3, hKC4, v1, hT4, Or.inr ⟨hbb.mp rfl, rfl, b1, b2, b3, b4, ⟨⟨_, _, f5⟩, ⟨_, v34⟩, ⟨_, v35⟩, f6, f7, f8, f9⟩, f10⟩⟩
/-- what madeAt() answers -/
def mdV (y : Int32) (a b c d : Int32) : Int32 := if y = nI 0 then a else if y = nI 1 then b else if y = nI 2 then c else d
theorem k_WP_madeAt (x y : Int32) (i m : Nat) (w : ab_W) (n : Nat) {mc ms : Nat} {kn ks : Nat} {lf rg wl : Int32} {a1 a2 a3 a4 : Nat → Int32} (hx : x = nI i) (hi : i < m) (hi4 : i < 40) (hm : m < 1000) (hy : ¬ (y < 0 ∨ nI 4 ≤ y)) (h0 : w 0 = oWP kn ks lf) (h33 : w 33 = oBox rg wl (nI m)) (h36 : w 36 = aI 40 a1) (h37 : w 37 = aI 40 a2) (h38 : w 38 = aI 40 a3) (h39 : w 39 = aI 40 a4) :
    ab_Ev X l i_WP_madeAt 0 (ab_en (ab_mx i_WP_madeAt) [.ref 0, .int x, .int y]) [] w n mc ms (ab_q1 (some (.int (mdV y (a1 i) (a2 i) (a3 i) (a4 i)))) w n) := by
  subst hx
  obtain ⟨w, rfl⟩ := va_ex6 h0 h33 h36 h37 h38 h39
  refine ab_sound ok_148 [] 80 ?_
  refine And.intro (fun h_9 => absurd h_9 (nI_pos (by omega))) (fun _ => ?_)
  refine And.intro (fun h_9 => absurd h_9 (nI_ge hi (by omega))) (fun _ => ?_)
  refine And.intro (fun h_9 => absurd h_9 (nI_ge hi4 (by omega))) (fun _ => ?_)
  refine And.intro (fun h_9 => absurd h_9 ((fun z => hy (Or.inl z)))) (fun _ => ?_)
  have hq : y ≤ nI 3 := by
    have h9 : ¬ nI 4 ≤ y := fun z => hy (Or.inr z)
    rw [i32_le] at h9 ⊢
    have q1 := nI_toInt (show 4 < 2 ^ 31 by omega)
    have q2 := nI_toInt (show 3 < 2 ^ 31 by omega)
    omega
  refine And.intro (fun _ => ?_) (fun h_9 => absurd (hq) h_9)
  unfold mdV
  refine And.intro (fun e0 => ?_) (fun e0 => And.intro (fun e1 => ?_) (fun e1 => And.intro (fun e2 => ?_) (fun e2 => ?_)))
  · refine And.intro (vp_in_nI (by omega) (by omega)) ?_
    rw [nI_clamp (by omega), if_pos e0]
    exact ⟨rfl, rfl, rfl⟩
  · refine And.intro (vp_in_nI (by omega) (by omega)) ?_
    rw [nI_clamp (by omega), if_neg e0, if_pos e1]
    exact ⟨rfl, rfl, rfl⟩
  · refine And.intro (vp_in_nI (by omega) (by omega)) ?_
    rw [nI_clamp (by omega), if_neg e0, if_neg e1, if_pos e2]
    exact ⟨rfl, rfl, rfl⟩
  · refine And.intro (vp_in_nI (by omega) (by omega)) ?_
    rw [nI_clamp (by omega), if_neg e0, if_neg e1, if_neg e2]
    exact ⟨rfl, rfl, rfl⟩
theorem k_WP_madeAt_n (x y : Int32) (w : ab_W) (n : Nat) {kn ks : Nat} {lf rg wl wy : Int32} (hx : x < 0 ∨ wy ≤ x ∨ nI 40 ≤ x ∨ y < 0 ∨ nI 4 ≤ y) (h0 : w 0 = oWP kn ks lf) (h33 : w 33 = oBox rg wl wy) :
    ab_Ev X l i_WP_madeAt 0 (ab_en (ab_mx i_WP_madeAt) [.ref 0, .int x, .int y]) [] w n 1 6 (ab_q1 (some (.retAddr 7777)) w n) := by
  obtain ⟨w, rfl⟩ := va_ex2 h0 h33
  refine ab_sound ok_148 [] 80 ?_
  refine And.intro (fun e1 => ?_) (fun e1 => ?_)
  · exact ⟨⟨by omega, by omega⟩, rfl, rfl, rfl⟩
  refine And.intro (fun e2 => ?_) (fun e2 => ?_)
  · exact ⟨⟨by omega, by omega⟩, rfl, rfl, rfl⟩
  refine And.intro (fun e3 => ?_) (fun e3 => ?_)
  · exact ⟨⟨by omega, by omega⟩, rfl, rfl, rfl⟩
  refine And.intro (fun e4 => ?_) (fun e4 => ?_)
  · exact ⟨⟨by omega, by omega⟩, rfl, rfl, rfl⟩
  have hq : ¬ y ≤ nI 3 := fun z => by
    have h9 := (((hx.resolve_left e1).resolve_left e2).resolve_left e3).resolve_left e4
    rw [i32_le] at h9 z
    have q1 := nI_toInt (show 4 < 2 ^ 31 by omega)
    have q2 := nI_toInt (show 3 < 2 ^ 31 by omega)
    omega
  refine And.intro (fun h_9 => absurd h_9 (hq)) (fun _ => ?_)
  exact ⟨⟨by omega, by omega⟩, rfl, rfl, rfl⟩
end MADE2
