section MAPI1
variable {X : ab_X} {l : Launch}
/-- rows that are the same answer the same -/
def SmR (N : Nat) (R S : Nat → Nat → Int64) : Prop := ∀ k i, k < N → i < phi N → R k i = S k i
theorem lk_congr {N : Nat} {R S : Nat → Nat → Int64} (h : SmR N R S) {j k : Nat} (hj : j < N) (hk : k < N) : lkB (phi N) (R j) (R k) = lkB (phi N) (S j) (S k) := by
  unfold lkB
  apply decide_eq_decide.mpr
  exact ⟨fun q i hi => by rw [← h j i hj hi, ← h k i hk hi]; exact q i hi, fun q i hi => by rw [h j i hj hi, h k i hk hi]; exact q i hi⟩
theorem lk_congr2 {N : Nat} {R S R2 S2 : Nat → Nat → Int64} (h : SmR N R S) (h2 : SmR N R2 S2) {j k : Nat} (hj : j < N) (hk : k < N) : lkB (phi N) (R j) (R2 k) = lkB (phi N) (S j) (S2 k) := by
  unfold lkB
  apply decide_eq_decide.mpr
  exact ⟨fun q i hi => by rw [← h j i hj hi, ← h2 k i hk hi]; exact q i hi, fun q i hi => by rw [h j i hj hi, h2 k i hk hi]; exact q i hi⟩
theorem fresh_congr {N : Nat} {R S : Nat → Nat → Int64} (h : SmR N R S) {k : Nat} (hk : k < N) : fresh (phi N) R k = fresh (phi N) S k := by
  unfold fresh
  apply decide_eq_decide.mpr
  exact ⟨fun q i hi => by rw [← lk_congr h (by omega) hk]; exact q i hi, fun q i hi => by rw [lk_congr h (by omega) hk]; exact q i hi⟩
def MB (w : ab_W) (s : Nat → Int32) (wd tn : Int64) (N : Nat → Nat) (R : Nat → Nat → Nat → Int64) : Prop := w 90 = oMod s wd tn ∧ MN0 w s ∧ MSh w N R ∧ (∃ f, w 114 = aJ 60 f) ∧ (∃ g, w 117 = aJ 3600 g) ∧ ∃ g, w 118 = aJ 3600 g
abbrev FM (k : Nat) : Prop := k = 90 ∨ (111 ≤ k ∧ k ≤ 118)
abbrev GA (k : Nat) : Prop := k = 0 ∨ (38 ≤ k ∧ k ≤ 40)
def mQ (w : ab_W) (n : Nat) (s : Nat → Int32) (wd tn : Int64) (th : Int32) (N : Nat → Nat) (R : Nat → Nat → Nat → Int64) : ab_W → Nat → Prop := fun w' n' => n = n' ∧ Fr FM w w' ∧ ∃ s', Fr GA s s' ∧ s' 0 = th ∧ MB w' s' wd tn N R
theorem MB.set0 {w : ab_W} {s : Nat → Int32} {wd tn : Int64} {N : Nat → Nat} {R : Nat → Nat → Nat → Int64} (h : MB w s wd tn N R) (x : Int32) : MB (va_up w 90 (oMod (upd s 0 x) wd tn)) (upd s 0 x) wd tn N R := by
  obtain ⟨h0, h1, h2, ⟨f, h3⟩, ⟨g, h4⟩, k, h5⟩ := h
  have hf : Fr (fun k => k = 90) w (va_up w 90 (oMod (upd s 0 x) wd tn)) := Fr.refl.up rfl
  have hg : Fr (fun k => k = 0) s (upd s 0 x) := Fr.refl.us rfl
  exact ⟨va_us, h1.fr hf hg (by omega) (by omega) (by omega) (by omega) (by omega), h2.fr hf (by omega) (by omega), ⟨f, hf.get h3 (by omega)⟩, ⟨g, hf.get h4 (by omega)⟩, k, hf.get h5 (by omega)⟩
theorem MB.laid {w w' : ab_W} {s s' : Nat → Int32} {wd tn : Int64} {N : Nat → Nat} {R : Nat → Nat → Nat → Int64} {M : Nat} (h : MB w s wd tn N R) (hf : Fr FN w w') (h9 : w' 90 = oMod s' wd tn) (hn : MN w' s' M) : MB w' s' wd tn N R := by
  obtain ⟨h0, h1, h2, ⟨f, h3⟩, ⟨g, h4⟩, k, h5⟩ := h
  exact ⟨h9, Or.inr ⟨M, hn⟩, h2.fr hf (by omega) (by omega), ⟨f, hf.get h3 (by omega)⟩, ⟨g, hf.get h4 (by omega)⟩, k, hf.get h5 (by omega)⟩
theorem MSh.rows {w : ab_W} {N : Nat → Nat} {R : Nat → Nat → Nat → Int64} (h : MSh w N R) : ∃ g, w 116 = aJ 28800 g ∧ ∀ t, t < 8 → SmR (N t) (rowsOf g (3600 * t)) (R t) := by
  obtain ⟨h0, pt, g, k1, k2, k3, k4⟩ := h
  exact ⟨g, k3, fun t ht k i hk hi => k4 t k i ht hk hi⟩
theorem MSh.pts {w : ab_W} {N : Nat → Nat} {R : Nat → Nat → Nat → Int64} (h : MSh w N R) : ∃ pt, w 115 = aI 8 pt ∧ ∀ t, t < 8 → pt t = nI (N t) := by
  obtain ⟨h0, pt, g, k1, k2, k3, k4⟩ := h
  exact ⟨pt, k1, k2⟩
theorem c_Mod_refuse (w : ab_W) (n : Nat) {s : Nat → Int32} {wd tn : Int64} (h0 : w 90 = oMod s wd tn) : ab_C X l i_Mod_refuse [.ref 90] w n 0 0 (ab_q1 (some (.int (nI 0))) (va_up w 90 (oMod (upd s 0 (nI 1)) wd tn)) n) := by
  obtain ⟨w, rfl⟩ := va_ex h0
  refine ab_metI cd_184 om_184 rfl (ab_sound ok_184 [] 50 ?_)
  exact ⟨rfl, rfl, rfl⟩
theorem c_Mod_thrown (w : ab_W) (n : Nat) {s : Nat → Int32} {wd tn : Int64} (h0 : w 90 = oMod s wd tn) : ab_C X l i_Mod_thrown [.ref 90] w n 0 0 (ab_q1 (some (.int (s 0))) w n) := by
  obtain ⟨w, rfl⟩ := va_ex h0
  refine ab_metI cd_150 om_150 rfl (ab_sound ok_150 [] 50 ?_)
  exact ⟨rfl, rfl, rfl⟩
theorem k_Mod_wipe (x : Int32) (t : Nat) (w : ab_W) (n : Nat) {s : Nat → Int32} {wd tn : Int64} {N : Nat → Nat} {R : Nat → Nat → Nat → Int64} (hx : x = nI t) (ht : t < 8) (hN : N t ≠ 0) (h : MB w s wd tn N R) : ab_C X l i_Mod_wipe [.ref 90, .int x] w n 0 0 (qI (nI 1) (mQ w n s wd tn (nI 0) (va_up N t 0) R)) := by
  subst hx
  have h9 := h.set0 (nI 0)
  obtain ⟨h0, -⟩ := h
  obtain ⟨k0, k1, ⟨a0, pt, g, a1, a2, a3, a4⟩, k3, k4, k5⟩ := h9
  have a1' : w 115 = aI 8 pt := (va_un (by omega)).symm.trans a1
  obtain ⟨w, rfl⟩ := va_ex2 h0 a1'
  refine ab_mqI cd_215 om_215 rfl (ab_sound ok_215 [] 80 ?_)
  (refine Exists.intro 0 ?_; refine ⟨0, _, Nat.zero_le _, Nat.zero_le _, c_Mod_isSheet_y _ t _ _ rfl ht, ?_⟩; refine ab_q1_elim ?_)
  refine And.intro (fun h_9 => absurd h_9 ((by decide))) (fun _ => ?_)
  refine And.intro (vp_in_nI ht (by omega)) ?_
  have hN6 := (a0 t ht).resolve_left hN
  rw [nI_clamp (by omega), a2 t ht]
  refine And.intro (fun _ => ?_) (fun h_9 => absurd h_9 (nI_ne0 (by omega) (by omega)))
  refine And.intro (vp_in_nI ht (by omega)) ?_
  rw [nI_clamp (by omega)]
  have hf : Fr (fun k => k = 115) (va_up (va_up (va_up w 115 (aI 8 pt)) 90 (oMod s wd tn)) 90 (oMod (upd s 0 (nI 0)) wd tn)) (va_up (va_up (va_up (va_up w 115 (aI 8 pt)) 90 (oMod s wd tn)) 90 (oMod (upd s 0 (nI 0)) wd tn)) 115 (aI 8 (upd pt t (nI 0)))) := Fr.refl.up rfl
  refine ⟨rfl, rfl, rfl, (Fr.refl.up (by omega)).up (by omega), upd s 0 (nI 0), Fr.refl.us (by omega), rfl, hf.get k0 (by omega), k1.fr hf (Fr.refl (F := fun _ => False)) (by omega) (by omega) (by omega) (by simp) (by simp), ⟨?_, _, g, va_us, ?_, hf.get a3 (by omega), ?_⟩, ?_, ?_, ?_⟩
  · intro u hu
    by_cases e : u = t
    · subst e; rw [va_us]; omega
    · rw [va_un e]; exact a0 u hu
  · intro u hu
    by_cases e : u = t
    · subst e; rw [va_us, upd_at]
    · rw [va_un e, upd_ne e]; exact a2 u hu
  · intro u k i hu hk hi
    by_cases e : u = t
    · subst e; rw [va_us] at hk; omega
    · rw [va_un e] at hk hi; exact a4 u k i hu hk hi
  · obtain ⟨f, e⟩ := k3; exact ⟨f, hf.get e (by omega)⟩
  · obtain ⟨f, e⟩ := k4; exact ⟨f, hf.get e (by omega)⟩
  · obtain ⟨f, e⟩ := k5; exact ⟨f, hf.get e (by omega)⟩
theorem k_Mod_wipe_n (x : Int32) (w : ab_W) (n : Nat) {s : Nat → Int32} {wd tn : Int64} {N : Nat → Nat} {R : Nat → Nat → Nat → Int64} (hx : badS N x) (h : MB w s wd tn N R) : ab_C X l i_Mod_wipe [.ref 90, .int x] w n 0 0 (qI (nI 0) (mQ w n s wd tn (nI 0) N R)) := by
  have h9 := h.set0 (nI 0)
  obtain ⟨h0, -, hS, -⟩ := h
  obtain ⟨pt, a1, a2⟩ := hS.pts
  obtain ⟨w, rfl⟩ := va_ex2 h0 a1
  refine ab_mqI cd_215 om_215 rfl (ab_sound ok_215 [] 80 ?_)
  rcases hx with hx | ⟨t, ht, hx, hN⟩
  · (refine Exists.intro 0 ?_; refine ⟨0, _, Nat.zero_le _, Nat.zero_le _, c_Mod_isSheet_n _ _ _ hx, ?_⟩; refine ab_q1_elim ?_)
    refine And.intro (fun _ => ?_) (fun h_9 => absurd (rfl) h_9)
    exact ⟨rfl, rfl, rfl, Fr.refl.up (by omega), upd s 0 (nI 0), Fr.refl.us (by omega), rfl, h9⟩
  · subst hx
    (refine Exists.intro 0 ?_; refine ⟨0, _, Nat.zero_le _, Nat.zero_le _, c_Mod_isSheet_y _ t _ _ rfl ht, ?_⟩; refine ab_q1_elim ?_)
    refine And.intro (fun h_9 => absurd h_9 ((by decide))) (fun _ => ?_)
    refine And.intro (vp_in_nI ht (by omega)) ?_
    rw [nI_clamp (by omega), a2 t ht, hN]
    refine And.intro (fun h_9 => absurd (rfl) h_9) (fun _ => ?_)
    exact ⟨rfl, rfl, rfl, Fr.refl.up (by omega), upd s 0 (nI 0), Fr.refl.us (by omega), rfl, h9⟩
theorem k_Mod_point (x y z : Int32) (t k i : Nat) (w : ab_W) (n : Nat) {s : Nat → Int32} {wd tn : Int64} {N : Nat → Nat} {R : Nat → Nat → Nat → Int64} (hx : x = nI t) (hy : y = nI k) (hz : z = nI i) (ht : t < 8) (hN : N t ≠ 0) (hk : k < N t) (hi : i < phi (N t)) (h : MB w s wd tn N R) :
    ab_C X l i_Mod_point [.ref 90, .int x, .int y, .int z] w n 0 0 (qL (R t k i) (mQ w n s wd tn (nI 0) N R)) := by
  subst hx hy hz
  have hh := h
  obtain ⟨h0, hN0, hS, -⟩ := h
  obtain ⟨w9, rfl⟩ := va_ex h0
  refine ab_mqL cd_218 om_218 rfl rfl (ab_sound ok_218 [] 80 ?_)
  (refine Exists.intro 0 ?_; refine ⟨0, _, Nat.zero_le _, Nat.zero_le _, k_has_y _ t _ _ rfl ht hN h0 hN0 hS, ?_⟩; rintro _ w1 _ ⟨rfl, rfl, e1, s', e2, e3, e4⟩)
  have hB := hh.laid e1 e2 e4
  have hB2 := hB.set0 (nI 0)
  obtain ⟨hM, ⟨c1, c2⟩, -⟩ := e4
  have hp := phi_le _ hM.2
  obtain ⟨g, g1, g2⟩ := hB.2.2.1.rows
  obtain ⟨w1, rfl⟩ := va_ex2 e2 g1
  refine And.intro (fun h_9 => absurd h_9 ((by decide))) (fun _ => ?_)
  refine And.intro (fun h_9 => absurd h_9 (nI_pos (by omega))) (fun _ => ?_)
  refine And.intro (fun h_9 => absurd h_9 ((by rw [c1]; exact nI_ge hk (by omega)))) (fun _ => ?_)
  refine And.intro (fun h_9 => absurd h_9 (nI_pos (by omega))) (fun _ => ?_)
  refine And.intro (fun _ => ?_) (fun h_9 => absurd ((by rw [c2]; exact nI_lt hi (by omega))) h_9)
  (refine Exists.intro 0 ?_; refine ⟨0, _, Nat.zero_le _, Nat.zero_le _, c_Mod_at _ _ t k _ _ rfl rfl, ?_⟩; refine ab_q1_elim ?_)
  refine And.intro ((by rw [nI_add]; exact vp_in_nI (by omega) (by omega))) ?_
  rw [nI_add, nI_clamp (by omega)]
  exact ⟨congrArg (fun q => some (Value.long q)) (g2 t ht k i hk hi), rfl, (e1.mono (fun k hk => by omega)).up (by omega), upd s' 0 (nI 0), (e3.mono (fun k hk => by omega)).us (by omega), rfl, hB2⟩
theorem k_Mod_point_n (x y z : Int32) (w : ab_W) (n : Nat) {s : Nat → Int32} {wd tn : Int64} {N : Nat → Nat} {R : Nat → Nat → Nat → Int64} (hx : badS N x ∨ ∃ t, t < 8 ∧ x = nI t ∧ N t ≠ 0 ∧ ((y < 0 ∨ nI (N t) ≤ y) ∨ (z < 0 ∨ nI (phi (N t)) ≤ z))) (h : MB w s wd tn N R) :
    ab_C X l i_Mod_point [.ref 90, .int x, .int y, .int z] w n 0 0 (qL 0 (mQ w n s wd tn (nI 1) N R)) := by
  have hh := h
  obtain ⟨h0, hN0, hS, -⟩ := h
  obtain ⟨w9, rfl⟩ := va_ex h0
  refine ab_mqL cd_218 om_218 rfl rfl (ab_sound ok_218 [32] 80 ?_)
  have fin : ∀ w1 s', Fr FM (va_up w9 90 (oMod s wd tn)) w1 → Fr GA s s' → MB w1 s' wd tn N R → ab_Ev X l i_Mod_point 32 (ab_en (ab_mx i_Mod_point) [.ref 90, .int x, .int y, .int z]) [] w1 n 0 0 (qL 0 (mQ (va_up w9 90 (oMod s wd tn)) n s wd tn (nI 1) N R)) := by
    intro w1 s' f1 f2 hB
    have hB2 := hB.set0 (nI 1)
    obtain ⟨w1, rfl⟩ := va_ex hB.1
    refine ab_sound ok_218 [] 80 ?_
    (refine Exists.intro 0 ?_; refine ⟨0, _, Nat.zero_le _, Nat.zero_le _, c_Mod_refuse _ _ rfl, ?_⟩; refine ab_q1_elim ?_)
    exact ⟨rfl, rfl, f1.up (by omega), upd s' 0 (nI 1), f2.us (by omega), rfl, hB2⟩
  rcases hx with hx | ⟨t, ht, hx, hN, hc⟩
  · (refine Exists.intro 0 ?_; refine ⟨0, _, Nat.zero_le _, Nat.zero_le _, k_has_n _ _ _ hx h0 hS, ?_⟩; refine ab_q1_elim ?_)
    refine And.intro (fun _ => ?_) (fun h_9 => absurd (rfl) h_9)
    exact fin _ s Fr.refl Fr.refl hh
  · (refine Exists.intro 0 ?_; refine ⟨0, _, Nat.zero_le _, Nat.zero_le _, k_has_y _ t _ _ hx ht hN h0 hN0 hS, ?_⟩; rintro _ w1 _ ⟨rfl, rfl, e1, s', e2, e3, e4⟩)
    have hB := hh.laid e1 e2 e4
    obtain ⟨hM, ⟨c1, c2⟩, -⟩ := e4
    obtain ⟨w1, rfl⟩ := va_ex e2
    have fin := fin _ s' (e1.mono (fun k hk => by omega)) (e3.mono (fun k hk => by omega)) hB
    refine And.intro (fun h_9 => absurd h_9 ((by decide))) (fun _ => ?_)
    refine And.intro (fun a1 => ?_) (fun a1 => ?_)
    · exact fin
    refine And.intro (fun a2 => ?_) (fun a2 => ?_)
    · exact fin
    refine And.intro (fun a3 => ?_) (fun a3 => ?_)
    · exact fin
    have h9 : ¬ z < s' 39 := by
      rw [c1] at a2
      rw [c2]
      rcases hc with hc | hc
      · exact absurd hc (fun z => z.elim a1 a2)
      · rcases hc with hc | hc
        · exact absurd hc a3
        · intro q
          rw [i32_lt] at q
          rw [i32_le] at hc
          omega
    refine And.intro (fun h_9 => absurd h_9 (h9)) (fun _ => ?_)
    exact fin
end MAPI1
