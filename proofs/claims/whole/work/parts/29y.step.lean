section ABG
variable {X : ab_X} {l : Launch} {y pc : Nat} {ls : ab_L} {st : List Value} {w : ab_W} {n bc bs : Nat} {Q : ab_Q}
theorem ab_blt {a b : Nat} (h : Nat.blt a b = true) : a < b := Nat.le_of_ble_eq_true h
theorem ab_tf {v : Int32} (h : v &&& 1 = v) : v = 0 ∨ v = 1 := by
  obtain ⟨j, h1, h2⟩ := pk_andE v (m := 1) 1 rfl
  rw [h] at h2
  rcases (show j = 0 ∨ j = 1 by omega) with rfl | rfl
  · exact Or.inl h2
  · exact Or.inr h2
theorem ab_cd_obj : Cond.instanceMethod objectInit ∈ lw_tbl ∧ Cond.code objectInit ⟨#[0xb1]⟩ 1 none ∈ lw_tbl := ⟨List.mem_of_getElem? (i := 125) rfl, List.mem_of_getElem? (i := 126) rfl⟩
theorem ab_fl_of {i a b c : Nat} (h : (ab_fl[c]?).map ab_k4 = some (ab_oc y, i, a, b)) : ab_flw (ab_oc y) i a b ∈ lw_tbl ∨ (ab_flN (ab_oc y) i a b ∈ lw_tbl ∧ (ab_T a b).2.2.2 = false) := by
  cases hq : ab_fl[c]? with
  | none => rw [hq] at h; cases h
  | some q =>
    rw [hq] at h
    simp only [Option.map_some, Option.some.injEq, ab_k4, Prod.mk.injEq] at h
    obtain ⟨h1, h2, h3, h4⟩ := h
    have h5 := List.all_eq_true.mp ab_fl_ok q (List.mem_of_getElem? hq)
    rw [h1, h2, h3, h4] at h5
    split at h5
    · left
      exact List.mem_of_getElem? (of_decide_eq_true h5)
    · right
      rw [Bool.and_eq_true] at h5
      exact ⟨List.mem_of_getElem? (of_decide_eq_true h5.1), by simpa using h5.2⟩
theorem ab_ml_of {i a c : Nat} (h : (ab_ml[c]?).map ab_kk3 = some (ab_oc y, i, a)) (ha : Nat.blt a 900 = true) : ab_mlw (ab_oc y) i a ∈ lw_tbl ∨ ab_mlN (ab_oc y) i a ∈ lw_tbl := by
  cases hq : ab_ml[c]? with
  | none => rw [hq] at h; cases h
  | some q =>
    rw [hq] at h
    simp only [Option.map_some, Option.some.injEq, ab_kk3, Prod.mk.injEq] at h
    obtain ⟨h1, h2, h3⟩ := h
    have h5 := List.all_eq_true.mp ab_ml_ok q (List.mem_of_getElem? hq)
    have ha2 : a < 900 := ab_blt ha
    rw [h1, h2, h3, Bool.or_eq_true] at h5
    rcases h5 with h5 | h5
    · exfalso
      have := Nat.le_of_ble_eq_true h5
      omega
    · split at h5
      · left
        exact List.mem_of_getElem? (of_decide_eq_true h5)
      · right
        exact List.mem_of_getElem? (of_decide_eq_true h5)
theorem ab_ml_of2 {i c : Nat} (h : (ab_ml[c]?).map ab_kk3 = some (ab_oc y, i, 903)) : Cond.methodLink (ab_cn (ab_oc y)) i objectInit ∈ lw_tbl := by
  cases hq : ab_ml[c]? with
  | none => rw [hq] at h; cases h
  | some q =>
    rw [hq] at h
    simp only [Option.map_some, Option.some.injEq, ab_kk3, Prod.mk.injEq] at h
    obtain ⟨h1, h2, h3⟩ := h
    have h5 := List.all_eq_true.mp ab_ml_ok2 q (List.mem_of_getElem? hq)
    rw [h1, h2, h3, Bool.or_eq_true] at h5
    rcases h5 with h5 | h5
    · cases h5
    · exact List.mem_of_getElem? (of_decide_eq_true h5)
theorem ab_nl_of {i a c : Nat} (h : (ab_nl[c]?).map ab_kn3 = some (ab_oc y, i, a)) (ha : a < 13) : Cond.classLink (ab_cn (ab_oc y)) i (ab_C3 a).1 ∈ lw_tbl := by
  cases hq : ab_nl[c]? with
  | none => rw [hq] at h; cases h
  | some q =>
    rw [hq] at h
    simp only [Option.map_some, Option.some.injEq, ab_kn3, Prod.mk.injEq] at h
    obtain ⟨h1, h2, h3⟩ := h
    have h5 := List.all_eq_true.mp ab_nl_ok q (List.mem_of_getElem? hq)
    rw [h1, h2, h3, Bool.or_eq_true] at h5
    rcases h5 with h5 | h5
    · exfalso
      have := Nat.le_of_ble_eq_true h5
      omega
    · exact List.mem_of_getElem? (of_decide_eq_true h5)
def ab_klv (a b : Nat) : Int64 := match a with
  | 0 => lN b
  | _ => -lN b
theorem ab_kl_of {i a b c : Nat} (h : (ab_kl[c]?).map ab_kk4 = some (ab_oc y, i, a, b)) : Cond.constantLong (ab_cn (ab_oc y)) i (ab_klv a b) ∈ lw_tbl := by
  cases hq : ab_kl[c]? with
  | none => rw [hq] at h; cases h
  | some q =>
    rw [hq] at h
    simp only [Option.map_some, Option.some.injEq, ab_kk4, Prod.mk.injEq] at h
    obtain ⟨h1, h2, h3, h4⟩ := h
    have h5 := List.all_eq_true.mp ab_kl_ok q (List.mem_of_getElem? hq)
    rw [h1, h2, h3, h4] at h5
    exact List.mem_of_getElem? (of_decide_eq_true h5)
theorem ab_ft1 {ty : FieldType} {v : Value} (h : ab_ft ty v = 1) : ∀ v', ab_rv X [] v v' ∨ (∃ ad, ab_rv X ad v v') → narrow ty v' = v' ∧ fits ty v' = true := by
  intro v' hv
  have hv2 : ∃ ad, ab_rv X ad v v' := hv.elim (fun z => ⟨_, z⟩) id
  obtain ⟨ad, hv2⟩ := hv2
  unfold ab_ft at h
  split at h
  · cases hv2; exact ⟨rfl, rfl⟩
  · cases hv2; exact ⟨rfl, rfl⟩
  · cases h
  · obtain ⟨a, -, rfl⟩ := hv2; exact ⟨rfl, rfl⟩
  · cases hv2; exact ⟨rfl, rfl⟩
  · obtain ⟨a, -, rfl⟩ := hv2; exact ⟨rfl, rfl⟩
  · cases h
theorem ab_ft2 {ty : FieldType} {v : Value} (h : ab_ft ty v = 2) (hb : narrow .boolean v = v) : ∀ v', ab_rv X [] v v' ∨ (∃ ad, ab_rv X ad v v') → narrow ty v' = v' ∧ fits ty v' = true := by
  intro v' hv
  have hv2 : ∃ ad, ab_rv X ad v v' := hv.elim (fun z => ⟨_, z⟩) id
  obtain ⟨ad, hv2⟩ := hv2
  unfold ab_ft at h
  split at h
  · cases h
  · cases h
  · cases hv2
    exact ⟨hb, by
      simp only [narrow, Value.int.injEq] at hb
      simp only [fits, hb]
      have := ab_tf hb
      simpa using this⟩
  · cases h
  · cases h
  · cases h
  · cases h
/-- a throw -/
theorem ab_x_throw {i a b c : Nat} {k' : List ab_Ent} (hy : ab_okc y 0 (ab_code y) = true) (hok : ab_okc y pc ((.new i, a, b, c) :: k') = true) (ht : ab_thr k' = true) (hct : Nat.ble (ab_cat st) 8 = true) (hpc : Nat.blt pc 100 = true) (h1 : 1 ≤ bc) (h6 : 6 ≤ bs) (h : Q (some (.retAddr 7777)) w n) : ab_Ev X l y pc ls st w n bc bs Q := by
  obtain ⟨d0, -, k0⟩ := ab_okc_cons hok
  unfold ab_thr at ht
  split at ht
  · obtain ⟨d1, -, k1⟩ := ab_okc_cons k0
    obtain ⟨d2, -, k2⟩ := ab_okc_cons k1
    obtain ⟨d3, -, k3⟩ := ab_okc_cons k2
    obtain ⟨d4, -, k4⟩ := ab_okc_cons k3
    intro p e R s m args below meth c A ad0 Z hB hF H locs cells slots ad ws lsr str hh hl hs hc hsl
    exact hF.2 pc H locs cells slots ad w n ws ls lsr st str h hh hl hs (Or.inl ⟨_, _, _, d0, d1, d2, d3, d4⟩) hct (ab_blt hpc) (by omega) (by omega)
  · obtain ⟨d1, -, k1⟩ := ab_okc_cons k0
    obtain ⟨d2, -, k2⟩ := ab_okc_cons k1
    obtain ⟨d3, -, k3⟩ := ab_okc_cons k2
    obtain ⟨d4, -, k4⟩ := ab_okc_cons k3
    intro p e R s m args below meth c A ad0 Z hB hF H locs cells slots ad ws lsr str hh hl hs hc hsl
    exact hF.2 pc H locs cells slots ad w n ws ls lsr st str h hh hl hs (Or.inr ⟨_, _, _, d0, d1, d2, d3, d4⟩) hct (ab_blt hpc) (by omega) (by omega)
  · cases ht
set_option maxHeartbeats 2000000 in
theorem ab_step_sound {nx : ab_N} {k : List ab_Ent} (hy : ab_okc y 0 (ab_code y) = true) (hok : ab_okc y pc k = true) (hn : ∀ pc' k' ls' st' w' n' bc' bs', ab_okc y pc' k' = true → nx pc' k' ls' st' w' n' bc' bs' → ab_Ev X l y pc' ls' st' w' n' bc' bs' Q) (h : ab_step X.2.2.2.1 X.2.2.2.2 (ab_C X l) y k pc ls st w n bc bs Q nx) : ab_Ev X l y pc ls st w n bc bs Q := by
  have hj : ∀ t, ab_okc y t (ab_sf y t) = true := fun t => ab_okc_drop t _ 0 hy
  cases k with
  | nil => exact False.elim h
  | cons e9 k' =>
    obtain ⟨i, a, b, c⟩ := e9
    obtain ⟨hd, hl, hk⟩ := ab_okc_cons hok
    dsimp only at hd hk
    unfold ab_step at h
    cases i with
    | aload_n j =>
      dsimp only at h
      split at h
      · next q hq => exact ab_x_aload_n_ref hd hq (hn _ _ _ _ _ _ _ _ hk h)
      · next hq => exact ab_x_aload_n_null hd hq (hn _ _ _ _ _ _ _ _ hk h)
      · next q hq => exact ab_x_aload_n_ra hd hq (hn _ _ _ _ _ _ _ _ hk h)
      · exact h.elim
    | aload j =>
      dsimp only at h
      split at h
      · next q hq => exact ab_x_aload_ref hd hq (hn _ _ _ _ _ _ _ _ hk h)
      · next hq => exact ab_x_aload_null hd hq (hn _ _ _ _ _ _ _ _ hk h)
      · next q hq => exact ab_x_aload_ra hd hq (hn _ _ _ _ _ _ _ _ hk h)
      · exact h.elim
    | iload_n j =>
      dsimp only at h
      split at h
      · next x hq => exact ab_x_iload_n_i hd hq (hn _ _ _ _ _ _ _ _ hk h)
      · exact h.elim
    | iload j =>
      dsimp only at h
      split at h
      · next x hq => exact ab_x_iload_i hd hq (hn _ _ _ _ _ _ _ _ hk h)
      · exact h.elim
    | lload_n j =>
      dsimp only at h
      split at h
      · next x hq => exact ab_x_lload_n_l hd hq (hn _ _ _ _ _ _ _ _ hk h)
      · exact h.elim
    | lload j =>
      dsimp only at h
      split at h
      · next x hq => exact ab_x_lload_l hd hq (hn _ _ _ _ _ _ _ _ hk h)
      · exact h.elim
    | getfield i =>
      dsimp only at h
      unfold ab_lk at hl
      dsimp only at hl
      simp only [Bool.or_eq_true, Bool.and_eq_true, decide_eq_true_eq] at hl
      split at h
      · next q r =>
        have hl2 : a < 13 → (ab_fl[c]?).map ab_k4 = some (ab_oc y, i, a, b) ∧ Nat.blt a 13 = true ∧ Nat.blt b (ab_C3 a).2.2 = true := by
          intro ha
          rcases hl with (hl | hl) | hl
          · omega
          · omega
          · exact ⟨hl.1.1, hl.1.2, hl.2⟩
        split at h
        · next he =>
          have e1 := Nat.eq_of_beq_eq_true he
          subst e1
          obtain ⟨g1, g2, g3⟩ := hl2 (by omega)
          have g4 := ab_fl_of g1
          obtain ⟨fs, v, hw, hv, h⟩ := h
          exact ab_x_get hd (ab_blt g2) (ab_blt g3) (g4.elim Or.inl (fun z => Or.inr z.1)) hw hv (hn _ _ _ _ _ _ _ _ hk h)
        · split at h
          · next hlt =>
            obtain ⟨g1, g2, g3⟩ := hl2 (ab_blt hlt)
            have g4 := ab_fl_of g1
            split at h
            · next ci fs hw =>
              split at h
              · next he =>
                split at h
                · next v hv =>
                  have e1 := Nat.eq_of_beq_eq_true he
                  subst e1
                  exact ab_x_get hd (ab_blt g2) (ab_blt g3) (g4.elim Or.inl (fun z => Or.inr z.1)) hw hv (hn _ _ _ _ _ _ _ _ hk h)
                · exact h.elim
              · exact h.elim
            · exact h.elim
          · exact h.elim
      · next j r =>
        split at h
        · next hj =>
          split at h
          · next he =>
            have e1 := Nat.eq_of_beq_eq_true he
            subst e1
            rcases hl with (hl | hl) | hl
            · exact ab_x_getSV hd (ab_blt hj) (List.mem_of_getElem? hl.2) (hn _ _ _ _ _ _ _ _ hk h)
            · exact absurd hl.1 (by decide)
            · exact absurd (ab_blt hl.1.2) (by decide)
          · split at h
            · next he =>
              have e1 := Nat.eq_of_beq_eq_true he
              subst e1
              rcases hl with (hl | hl) | hl
              · exact absurd hl.1 (by decide)
              · exact ab_x_getSC hd (ab_blt hj) (List.mem_of_getElem? hl.2) (hn _ _ _ _ _ _ _ _ hk h)
              · exact absurd (ab_blt hl.1.2) (by decide)
            · exact h.elim
        · exact h.elim
      · exact h.elim
    | getstatic i =>
      dsimp only at h
      unfold ab_lk at hl
      dsimp only at hl
      simp only [Bool.or_eq_true, Bool.and_eq_true, decide_eq_true_eq] at hl
      split at h
      · next he =>
        have e1 := Nat.eq_of_beq_eq_true he
        subst e1
        rcases hl with hl | hl
        · exact ab_x_getst hd (List.mem_of_getElem? hl.2) (hn _ _ _ _ _ _ _ _ hk h)
        · exact absurd hl.1 (by decide)
      · split at h
        · next he =>
          have e1 := Nat.eq_of_beq_eq_true he
          subst e1
          rcases hl with hl | hl
          · exact absurd hl.1 (by decide)
          · exact ab_x_getsq hd (List.mem_of_getElem? hl.2) (hn _ _ _ _ _ _ _ _ hk h.1) (hn _ _ _ _ _ _ _ _ hk h.2)
        · exact h.elim
    | putfield i =>
      dsimp only at h
      unfold ab_lk at hl
      simp only [Bool.and_eq_true, decide_eq_true_eq] at hl
      obtain ⟨⟨⟨g1, g2⟩, g3⟩, g5⟩ := hl
      have g4 := ab_fl_of g1
      have g6 : (ab_flw (ab_oc y) i a b ∈ lw_tbl ∧ ((ab_T a b).2.2.2 = false ∨ ((ab_mn y).name = "<init>" ∧ (ab_T a b).1 = ab_cn (ab_oc y)))) ∨ (ab_flN (ab_oc y) i a b ∈ lw_tbl ∧ (ab_T a b).2.2.2 = false) := by
        rcases g4 with g4 | g4
        · left
          refine ⟨g4, ?_⟩
          unfold ab_finOk at g5
          split at g5
          · next hz => exact Or.inl hz
          · simp only [Bool.and_eq_true, decide_eq_true_eq] at g5
            exact Or.inr g5
        · exact Or.inr g4
      split at h
      · next v q r =>
        split at h
        · next he =>
          have e1 := Nat.eq_of_beq_eq_true he
          subst e1
          obtain ⟨fs, hw, hb, h⟩ := h
          split at h
          · next hf => exact ab_x_put hd (ab_blt g2) (ab_blt g3) g6 hw hb (ab_ft1 hf) (hn _ _ _ _ _ _ _ _ hk h)
          · exact h.elim
        · split at h
          · next ci fs hw =>
            split at h
            · next he =>
              have e1 := Nat.eq_of_beq_eq_true he
              subst e1
              split at h
              · next hb =>
                split at h
                · next hf => exact ab_x_put hd (ab_blt g2) (ab_blt g3) g6 hw (ab_blt hb) (ab_ft1 hf) (hn _ _ _ _ _ _ _ _ hk h)
                · next hf => exact ab_x_put hd (ab_blt g2) (ab_blt g3) g6 hw (ab_blt hb) (ab_ft2 hf h.1) (hn _ _ _ _ _ _ _ _ hk h.2)
                · exact h.elim
              · exact h.elim
            · exact h.elim
          · exact h.elim
      · exact h.elim
    | iconst z =>
      dsimp only at h
      unfold ab_lk at hl
      dsimp only at hl
      split at h
      · exact ab_x_iconst hd (of_decide_eq_true hl) (hn _ _ _ _ _ _ _ _ hk h)
      · next hz =>
        have g := hl
        split at g
        · exact absurd rfl hz
        · exact ab_x_iconst hd (of_decide_eq_true g) (hn _ _ _ _ _ _ _ _ hk h)
    | bipush z =>
      dsimp only at h
      unfold ab_lk at hl
      dsimp only at hl
      split at h
      · exact ab_x_bipush hd (of_decide_eq_true hl) (hn _ _ _ _ _ _ _ _ hk h)
      · next hz =>
        have g := hl
        split at g
        · exact absurd rfl hz
        · exact ab_x_bipush hd (of_decide_eq_true g) (hn _ _ _ _ _ _ _ _ hk h)
    | sipush z =>
      dsimp only at h
      unfold ab_lk at hl
      dsimp only at hl
      split at h
      · exact ab_x_sipush hd (of_decide_eq_true hl) (hn _ _ _ _ _ _ _ _ hk h)
      · next hz =>
        have g := hl
        split at g
        · exact absurd rfl hz
        · exact ab_x_sipush hd (of_decide_eq_true g) (hn _ _ _ _ _ _ _ _ hk h)
    | lconst j =>
      dsimp only at h
      exact ab_x_lconst hd (hn _ _ _ _ _ _ _ _ hk h)
    | ldc2_w i =>
      dsimp only at h
      unfold ab_lk at hl
      have g := ab_kl_of (of_decide_eq_true hl)
      split at h
      · exact ab_x_ldc2 hd g (hn _ _ _ _ _ _ _ _ hk h)
      · next hz =>
        unfold ab_klv at g
        split at g
        · exact absurd rfl hz
        · exact ab_x_ldc2 hd g (hn _ _ _ _ _ _ _ _ hk h)
    | ldc i =>
      dsimp only at h
      unfold ab_lk at hl
      dsimp only at hl
      split at hl
      · next q hq =>
        simp only [Bool.and_eq_true, decide_eq_true_eq] at hl
        obtain ⟨q1, q2, q3⟩ := q
        obtain ⟨e1, e2⟩ := hl
        dsimp only at e1 e2
        subst e1
        subst e2
        exact ab_x_ldcS hd hq (hn _ _ _ _ _ _ _ _ hk h)
      · cases hl
    | aconst_null =>
      dsimp only at h
      exact ab_x_null hd (hn _ _ _ _ _ _ _ _ hk h)
    | istore_n j =>
      dsimp only at h
      unfold ab_lk at hl
      split at h
      · exact ab_x_istore_n_i hd (ab_blt hl) (hn _ _ _ _ _ _ _ _ hk h)
      · exact h.elim
    | istore j =>
      dsimp only at h
      unfold ab_lk at hl
      split at h
      · exact ab_x_istore_i hd (ab_blt hl) (hn _ _ _ _ _ _ _ _ hk h)
      · exact h.elim
    | lstore_n j =>
      dsimp only at h
      unfold ab_lk at hl
      split at h
      · exact ab_x_lstore_n_l hd (ab_blt hl) (hn _ _ _ _ _ _ _ _ hk h)
      · exact h.elim
    | lstore j =>
      dsimp only at h
      unfold ab_lk at hl
      split at h
      · exact ab_x_lstore_l hd (ab_blt hl) (hn _ _ _ _ _ _ _ _ hk h)
      · exact h.elim
    | astore_n j =>
      dsimp only at h
      unfold ab_lk at hl
      split at h
      · exact ab_x_astore_n_ref hd (ab_blt hl) (hn _ _ _ _ _ _ _ _ hk h)
      · exact ab_x_astore_n_null hd (ab_blt hl) (hn _ _ _ _ _ _ _ _ hk h)
      · exact h.elim
    | astore j =>
      dsimp only at h
      unfold ab_lk at hl
      split at h
      · exact ab_x_astore_ref hd (ab_blt hl) (hn _ _ _ _ _ _ _ _ hk h)
      · exact ab_x_astore_null hd (ab_blt hl) (hn _ _ _ _ _ _ _ _ hk h)
      · exact h.elim
    | iinc j z =>
      dsimp only at h
      unfold ab_lk at hl
      dsimp only at hl
      rw [Bool.and_eq_true] at hl
      split at h
      · next x hq =>
        split at h
        · exact ab_x_iinc_p hd (ab_blt hl.1) (of_decide_eq_true hl.2) hq (hn _ _ _ _ _ _ _ _ hk h)
        · next hz =>
          have g := hl.2
          split at g
          · exact absurd rfl hz
          · exact ab_x_iinc_m hd (ab_blt hl.1) (of_decide_eq_true g) hq (hn _ _ _ _ _ _ _ _ hk h)
      · exact h.elim
    | iadd =>
      dsimp only at h
      split at h
      · exact ab_x_iadd hd (hn _ _ _ _ _ _ _ _ hk h)
      · exact h.elim
    | isub =>
      dsimp only at h
      split at h
      · exact ab_x_isub hd (hn _ _ _ _ _ _ _ _ hk h)
      · exact h.elim
    | imul =>
      dsimp only at h
      split at h
      · exact ab_x_imul hd (hn _ _ _ _ _ _ _ _ hk h)
      · exact h.elim
    | ineg =>
      dsimp only at h
      split at h
      · exact ab_x_ineg hd (hn _ _ _ _ _ _ _ _ hk h)
      · exact h.elim
    | iand =>
      dsimp only at h
      split at h
      · exact ab_x_iand hd (hn _ _ _ _ _ _ _ _ hk h)
      · exact h.elim
    | ior =>
      dsimp only at h
      split at h
      · exact ab_x_ior hd (hn _ _ _ _ _ _ _ _ hk h)
      · exact h.elim
    | ixor =>
      dsimp only at h
      split at h
      · exact ab_x_ixor hd (hn _ _ _ _ _ _ _ _ hk h)
      · exact h.elim
    | ishl =>
      dsimp only at h
      split at h
      · exact ab_x_ishl hd (hn _ _ _ _ _ _ _ _ hk h)
      · exact h.elim
    | ishr =>
      dsimp only at h
      split at h
      · exact ab_x_ishr hd (hn _ _ _ _ _ _ _ _ hk h)
      · exact h.elim
    | i2c =>
      dsimp only at h
      split at h
      · exact ab_x_i2c hd (hn _ _ _ _ _ _ _ _ hk h)
      · exact h.elim
    | iushr =>
      dsimp only at h
      split at h
      · exact ab_x_iushr hd (hn _ _ _ _ _ _ _ _ hk h)
      · exact h.elim
    | ladd =>
      dsimp only at h
      split at h
      · exact ab_x_ladd hd (hn _ _ _ _ _ _ _ _ hk h)
      · exact h.elim
    | lsub =>
      dsimp only at h
      split at h
      · exact ab_x_lsub hd (hn _ _ _ _ _ _ _ _ hk h)
      · exact h.elim
    | lmul =>
      dsimp only at h
      split at h
      · exact ab_x_lmul hd (hn _ _ _ _ _ _ _ _ hk h)
      · exact h.elim
    | lneg =>
      dsimp only at h
      split at h
      · exact ab_x_lneg hd (hn _ _ _ _ _ _ _ _ hk h)
      · exact h.elim
    | lxor =>
      dsimp only at h
      split at h
      · exact ab_x_lxor hd (hn _ _ _ _ _ _ _ _ hk h)
      · exact h.elim
    | lcmp =>
      dsimp only at h
      split at h
      · exact ab_x_lcmp hd (hn _ _ _ _ _ _ _ _ hk h)
      · exact h.elim
    | i2l =>
      dsimp only at h
      split at h
      · exact ab_x_i2l hd (hn _ _ _ _ _ _ _ _ hk h)
      · exact h.elim
    | l2i =>
      dsimp only at h
      split at h
      · exact ab_x_l2i hd (hn _ _ _ _ _ _ _ _ hk h)
      · exact h.elim
    | idiv =>
      dsimp only at h
      split at h
      · exact ab_x_idiv hd h.1 (hn _ _ _ _ _ _ _ _ hk h.2)
      · exact h.elim
    | irem =>
      dsimp only at h
      split at h
      · exact ab_x_irem hd h.1 (hn _ _ _ _ _ _ _ _ hk h.2)
      · exact h.elim
    | ldiv =>
      dsimp only at h
      split at h
      · exact ab_x_ldiv hd h.1 (hn _ _ _ _ _ _ _ _ hk h.2)
      · exact h.elim
    | lrem =>
      dsimp only at h
      split at h
      · exact ab_x_lrem hd h.1 (hn _ _ _ _ _ _ _ _ hk h.2)
      · exact h.elim
    | dup =>
      dsimp only at h
      split at h
      · exact ab_x_dup_i hd (hn _ _ _ _ _ _ _ _ hk h)
      · exact ab_x_dup_r hd (hn _ _ _ _ _ _ _ _ hk h)
      · exact h.elim
    | dup_x1 =>
      dsimp only at h
      split at h
      · exact ab_x_dupx1 hd (hn _ _ _ _ _ _ _ _ hk h)
      · exact h.elim
    | dup2 =>
      dsimp only at h
      split at h
      · exact ab_x_dup2_l hd (hn _ _ _ _ _ _ _ _ hk h)
      · exact ab_x_dup2_ir hd (hn _ _ _ _ _ _ _ _ hk h)
      · exact h.elim
    | pop =>
      dsimp only at h
      split at h
      · exact ab_x_pop hd (hn _ _ _ _ _ _ _ _ hk h)
      · exact h.elim
    | goto o9 =>
      dsimp only at h
      unfold ab_lk at hl
      exact ab_x_goto hd (of_decide_eq_true hl) (hn _ _ _ _ _ _ _ _ (hj a) h)
    | ifCond o8 o9 =>
      dsimp only at h
      unfold ab_lk at hl
      have ht := of_decide_eq_true hl
      split at h
      · cases o8 with
        | eq => exact ab_x_if_eq hd ht (fun z => hn _ _ _ _ _ _ _ _ (hj a) (h.1 z)) (fun z => hn _ _ _ _ _ _ _ _ hk (h.2 z))
        | ne => exact ab_x_if_ne hd ht (fun z => hn _ _ _ _ _ _ _ _ (hj a) (h.1 z)) (fun z => hn _ _ _ _ _ _ _ _ hk (h.2 z))
        | lt => exact ab_x_if_lt hd ht (fun z => hn _ _ _ _ _ _ _ _ (hj a) (h.1 z)) (fun z => hn _ _ _ _ _ _ _ _ hk (h.2 z))
        | ge => exact ab_x_if_ge hd ht (fun z => hn _ _ _ _ _ _ _ _ (hj a) (h.1 z)) (fun z => hn _ _ _ _ _ _ _ _ hk (h.2 z))
        | gt => exact ab_x_if_gt hd ht (fun z => hn _ _ _ _ _ _ _ _ (hj a) (h.1 z)) (fun z => hn _ _ _ _ _ _ _ _ hk (h.2 z))
        | le => exact ab_x_if_le hd ht (fun z => hn _ _ _ _ _ _ _ _ (hj a) (h.1 z)) (fun z => hn _ _ _ _ _ _ _ _ hk (h.2 z))
      · exact h.elim
    | if_icmp o8 o9 =>
      dsimp only at h
      unfold ab_lk at hl
      have ht := of_decide_eq_true hl
      split at h
      · cases o8 with
        | eq => exact ab_x_icmp_eq hd ht (fun z => hn _ _ _ _ _ _ _ _ (hj a) (h.1 z)) (fun z => hn _ _ _ _ _ _ _ _ hk (h.2 z))
        | ne => exact ab_x_icmp_ne hd ht (fun z => hn _ _ _ _ _ _ _ _ (hj a) (h.1 z)) (fun z => hn _ _ _ _ _ _ _ _ hk (h.2 z))
        | lt => exact ab_x_icmp_lt hd ht (fun z => hn _ _ _ _ _ _ _ _ (hj a) (h.1 z)) (fun z => hn _ _ _ _ _ _ _ _ hk (h.2 z))
        | ge => exact ab_x_icmp_ge hd ht (fun z => hn _ _ _ _ _ _ _ _ (hj a) (h.1 z)) (fun z => hn _ _ _ _ _ _ _ _ hk (h.2 z))
        | gt => exact ab_x_icmp_gt hd ht (fun z => hn _ _ _ _ _ _ _ _ (hj a) (h.1 z)) (fun z => hn _ _ _ _ _ _ _ _ hk (h.2 z))
        | le => exact ab_x_icmp_le hd ht (fun z => hn _ _ _ _ _ _ _ _ (hj a) (h.1 z)) (fun z => hn _ _ _ _ _ _ _ _ hk (h.2 z))
      · exact h.elim
    | ifnull o9 =>
      dsimp only at h
      unfold ab_lk at hl
      have ht := of_decide_eq_true hl
      split at h
      · exact ab_x_ifnull_r hd ht (hn _ _ _ _ _ _ _ _ hk h)
      · exact ab_x_ifnull_n hd ht (hn _ _ _ _ _ _ _ _ (hj a) h)
      · exact h.elim
    | ifnonnull o9 =>
      dsimp only at h
      unfold ab_lk at hl
      have ht := of_decide_eq_true hl
      split at h
      · exact ab_x_ifnonnull_r hd ht (hn _ _ _ _ _ _ _ _ (hj a) h)
      · exact ab_x_ifnonnull_n hd ht (hn _ _ _ _ _ _ _ _ hk h)
      · exact h.elim
    | tableswitch d lo hi offs =>
      dsimp only at h
      unfold ab_lk at hl
      simp only [Bool.and_eq_true, decide_eq_true_eq] at hl
      obtain ⟨⟨⟨g1, g2⟩, g3⟩, g4⟩ := hl
      split at h
      · exact ab_x_table hd g1 g2 g3 (fun o ho => of_decide_eq_true (List.all_eq_true.mp g4 o ho)) (fun t ht => hn _ _ _ _ _ _ _ _ (hj t) ht) h
      · exact h.elim
    | laload =>
      dsimp only at h
      split at h
      · split at h
        · next hw => exact ab_x_laload hd hw h.1 (hn _ _ _ _ _ _ _ _ hk h.2)
        · exact h.elim
      · exact h.elim
    | iastore =>
      dsimp only at h
      split at h
      · split at h
        · next hw => exact ab_x_iastore hd hw h.1 (hn _ _ _ _ _ _ _ _ hk h.2)
        · exact h.elim
      · exact h.elim
    | lastore =>
      dsimp only at h
      split at h
      · split at h
        · next hw => exact ab_x_lastore hd hw h.1 (hn _ _ _ _ _ _ _ _ hk h.2)
        · exact h.elim
      · exact h.elim
    | bastore =>
      dsimp only at h
      split at h
      · split at h
        · next hw => exact ab_x_bastore hd hw h.1 (hn _ _ _ _ _ _ _ _ hk h.2)
        · exact h.elim
      · exact h.elim
    | iaload =>
      dsimp only at h
      split at h
      · split at h
        · next hw => exact ab_x_iaload hd hw h.1 (hn _ _ _ _ _ _ _ _ hk h.2)
        · exact h.elim
      · split at h
        · next he =>
          have e1 := Nat.eq_of_beq_eq_true he
          subst e1
          exact ab_x_ialoadX hd h.1 (hn _ _ _ _ _ _ _ _ hk h.2)
        · exact h.elim
      · exact h.elim
    | baload =>
      dsimp only at h
      split at h
      · split at h
        · next hw => exact ab_x_baload hd hw h.1 (hn _ _ _ _ _ _ _ _ hk h.2)
        · exact h.elim
      · next i9 j9 r9 =>
        split at h
        · next he =>
          rw [Bool.and_eq_true] at he
          have e1 := Nat.le_of_ble_eq_true he.1
          have e2 := ab_blt he.2
          obtain ⟨t9, rfl⟩ : ∃ t9, j9 = 2000 + t9 := ⟨j9 - 2000, by omega⟩
          rw [show 2000 + t9 - 2000 = t9 by omega] at h
          exact ab_x_baloadS hd (by omega) h.1 (hn _ _ _ _ _ _ _ _ hk h.2)
        · exact h.elim
      · exact h.elim
    | aaload =>
      dsimp only at h
      split at h
      · split at h
        · next hw => exact ab_x_aaload hd hw h.1 (hn _ _ _ _ _ _ _ _ hk (h.2 _ rfl))
        · exact h.elim
      · exact h.elim
    | aastore =>
      dsimp only at h
      split at h
      · split at h
        · next hv =>
          split at h
          · next hw => exact ab_x_aastore hd hw hv h.1 (hn _ _ _ _ _ _ _ _ hk h.2)
          · exact h.elim
        · exact h.elim
      · exact h.elim
    | arraylength =>
      dsimp only at h
      split at h
      · split at h
        · next hw => exact ab_x_alen0 hd hw (hn _ _ _ _ _ _ _ _ hk h)
        · next hw => exact ab_x_alen1 hd hw (hn _ _ _ _ _ _ _ _ hk h)
        · next hw => exact ab_x_alen2 hd hw (hn _ _ _ _ _ _ _ _ hk h)
        · next hw => exact ab_x_alen3 hd hw (hn _ _ _ _ _ _ _ _ hk h)
        · exact h.elim
      · next j9 r9 =>
        split at h
        · next he =>
          have e1 := Nat.eq_of_beq_eq_true he
          subst e1
          exact ab_x_alenX hd (hn _ _ _ _ _ _ _ _ hk h)
        · split at h
          · next he =>
            rw [Bool.and_eq_true] at he
            have e1 := Nat.le_of_ble_eq_true he.1
            have e2 := ab_blt he.2
            obtain ⟨t9, rfl⟩ : ∃ t9, j9 = 2000 + t9 := ⟨j9 - 2000, by omega⟩
            rw [show 2000 + t9 - 2000 = t9 by omega] at h
            exact ab_x_alenS hd (by omega) (hn _ _ _ _ _ _ _ _ hk h)
          · exact h.elim
      · exact h.elim
    | newarray t9 =>
      dsimp only at h
      unfold ab_lk at hl
      dsimp only at hl
      rw [Bool.and_eq_true] at hl
      split at h
      · obtain ⟨⟨h1, h2, h3, h4⟩, h5⟩ := h
        refine ab_x_newarray (t := a) (b := b) hd ?_ ?_ h1 h2 (Nat.le_of_ble_eq_true hl.2) h3 h4 (hn _ _ _ _ _ _ _ _ hk h5)
        · have g := hl.1
          unfold ab_atq at g
          split at g
          · exact Or.inl ⟨rfl, rfl⟩
          · exact Or.inr (Or.inl ⟨rfl, rfl⟩)
          · exact Or.inr (Or.inr ⟨rfl, rfl⟩)
          · cases g
        · have g := hl.1
          unfold ab_atq at g
          split at g
          · exact ab_ac_ok.1
          · exact ab_ac_ok.2.1
          · exact ab_ac_ok.2.2
          · cases g
      · exact h.elim
    | anewarray i =>
      dsimp only at h
      unfold ab_lk at hl
      dsimp only at hl
      rw [Bool.and_eq_true] at hl
      split at h
      · obtain ⟨⟨h1, h2, h3, h4⟩, h5⟩ := h
        exact ab_x_anewarray hd (ab_nl_of (a := 6) (of_decide_eq_true hl.1) (by decide)) h1 h2 (Nat.le_of_ble_eq_true hl.2) h3 h4 (hn _ _ _ _ _ _ _ _ hk h5)
      · exact h.elim
    | new i =>
      dsimp only at h
      unfold ab_lk at hl
      dsimp only at hl
      rw [Bool.or_eq_true] at hl
      split at h
      · next ha =>
        have ha2 := ab_blt ha
        rcases hl with hl | hl
        · have := Nat.le_of_ble_eq_true hl
          omega
        · rw [Bool.and_eq_true] at hl
          have e1 := of_decide_eq_true hl.2
          subst e1
          obtain ⟨⟨h1, h2⟩, h5⟩ := h
          exact ab_x_new hd ha2 (ab_nl_of (of_decide_eq_true hl.1) ha2) (ab_cl_ok a ha2).1 (ab_cl_ok a ha2).2 h1 h2 (hn _ _ _ _ _ _ _ _ hk h5)
      · split at h
        · next he =>
          rw [Bool.and_eq_true, Bool.and_eq_true, Bool.and_eq_true] at he
          exact ab_x_throw hy hok he.1.2 he.2.1 he.2.2 h.1.1 h.1.2 h.2
        · exact h.elim
    | invokevirtual i =>
      dsimp only at h
      unfold ab_lk at hl
      dsimp only at hl
      split at h
      · next ha =>
        rw [Bool.or_eq_true] at hl
        rcases hl with hl | hl
        · have := Nat.le_of_ble_eq_true hl
          have := ab_blt ha
          omega
        · simp only [Bool.and_eq_true, Bool.or_eq_true] at hl
          obtain ⟨⟨⟨⟨g0, g1⟩, g2⟩, g3⟩, g4⟩ := hl
          have g9 : (parseMethodDescriptor (ab_mn a).desc).map (fun d => d.parameters.length + 1) = some b := by
            have e9 := of_decide_eq_true g3
            unfold ab_nps at e9
            rw [Option.map_map] at e9
            exact e9
          split at h
          · next q av r hp =>
            split at h
            · next hc =>
              split at h
              · next he =>
                have e1 := Nat.eq_of_beq_eq_true he
                obtain ⟨⟨fs, hw⟩, mc, ms, Qy, h1, h2, h3, h4⟩ := h
                rw [← e1] at hw
                exact ab_x_callV hd (ab_ml_of (of_decide_eq_true g1) ha) (Nat.eq_of_beq_eq_true g2) g9 g4 hp hc (by omega) hw h1 h2 h3 (fun v w' n' hv => hn _ _ _ _ _ _ _ _ hk (h4 v w' n' hv))
              · split at h
                · next o9 =>
                  split at h
                  · next ci fs hw =>
                    split at h
                    · next he =>
                      have e1 := Nat.eq_of_beq_eq_true he
                      subst e1
                      obtain ⟨mc, ms, Qy, h1, h2, h3, h4⟩ := h
                      exact ab_x_callV hd (ab_ml_of (of_decide_eq_true g1) ha) (Nat.eq_of_beq_eq_true g2) g9 g4 hp hc (ab_blt o9) hw h1 h2 h3 (fun v w' n' hv => hn _ _ _ _ _ _ _ _ hk (h4 v w' n' hv))
                    · exact h.elim
                  · exact h.elim
                · exact h.elim
            · exact h.elim
          · next j av r hp =>
            split at h
            · next hc =>
              simp only [Bool.and_eq_true] at hc
              obtain ⟨mc, ms, Qy, h1, h2, h3, h4⟩ := h
              exact ab_x_callVS hd (ab_ml_of (of_decide_eq_true g1) ha) (Nat.eq_of_beq_eq_true g2) g9 g4 hp hc.1.1 (Nat.eq_of_beq_eq_true hc.1.2) (ab_blt hc.2) h1 h2 h3 (fun v w' n' hv => hn _ _ _ _ _ _ _ _ hk (h4 v w' n' hv))
            · exact h.elim
          · exact h.elim
      · exact h.elim
    | invokestatic i =>
      dsimp only at h
      unfold ab_lk at hl
      dsimp only at hl
      split at h
      · next ha =>
        rw [Bool.or_eq_true] at hl
        rcases hl with hl | hl
        · have := Nat.le_of_ble_eq_true hl
          have := ab_blt ha
          omega
        · simp only [Bool.and_eq_true] at hl
          obtain ⟨⟨⟨g1, g2⟩, g3⟩, g4⟩ := hl
          split at h
          · next av r hp =>
            split at h
            · next hc =>
              obtain ⟨mc, ms, Qy, h1, h2, h3, h4⟩ := h
              exact ab_x_callS hd (ab_ml_of (of_decide_eq_true g1) ha) (Nat.eq_of_beq_eq_true g2) (of_decide_eq_true g3) g4 hp hc h1 h2 h3 (fun v w' n' hv => hn _ _ _ _ _ _ _ _ hk (h4 v w' n' hv))
            · exact h.elim
          · exact h.elim
      · exact h.elim
    | invokespecial i =>
      dsimp only at h
      unfold ab_lk at hl
      dsimp only at hl
      split at h
      · next ha =>
        have e1 := Nat.eq_of_beq_eq_true ha
        subst e1
        have hl : (decide ((ab_ml[c]?).map ab_kk3 = some (ab_oc y, i, 903)) && Nat.ble 1 (ab_fr y) && Nat.ble 20 (ab_lo y)) = true := hl
        simp only [Bool.and_eq_true] at hl
        obtain ⟨⟨g1, g2⟩, g3⟩ := hl
        split at h
        · split at h
          · next hc => exact ab_x_objInit hd (ab_ml_of2 (of_decide_eq_true g1)) ab_cd_obj.1 ab_cd_obj.2 (Nat.le_of_ble_eq_true g2) (Nat.le_of_ble_eq_true g3) hc (hn _ _ _ _ _ _ _ _ hk h)
          · exact h.elim
        · exact h.elim
      · next ha0 =>
        rw [ha0] at hl
        dsimp only at hl
        split at h
        · next ha =>
          rw [Bool.or_eq_true] at hl
          rcases hl with hl | hl
          · have := Nat.le_of_ble_eq_true hl
            have := ab_blt ha
            omega
          · simp only [Bool.and_eq_true] at hl
            obtain ⟨⟨⟨g1, g2⟩, g3⟩, g4⟩ := hl
            split at h
            · next q av r hp =>
              split at h
              · next hc =>
                obtain ⟨mc, ms, Qy, h1, h2, h3, h4⟩ := h
                exact ab_x_callI hd (ab_ml_of (of_decide_eq_true g1) ha) (Nat.eq_of_beq_eq_true g2) (by
            have e9 := of_decide_eq_true g3
            unfold ab_nps at e9
            rw [Option.map_map] at e9
            exact e9) g4 hp hc h1 h2 h3 (fun v w' n' hv => hn _ _ _ _ _ _ _ _ hk (h4 v w' n' hv))
              · exact h.elim
            · exact h.elim
        · exact h.elim
    | ireturn =>
      dsimp only at h
      split at h
      · next x =>
        unfold ab_ret at h
        split at h
        · next hr => exact ab_x_ret (v := some (.int x)) rfl ⟨hd, .int, hr, rfl⟩ h
        · next ty _ hr => exact ab_x_ret (v := some (.int x)) rfl ⟨hd, ty, hr, h.1⟩ h.2
        · exact h.elim
      · exact h.elim
    | lreturn =>
      dsimp only at h
      split at h
      · next x => exact ab_x_ret (v := some (.long x)) rfl hd h
      · exact h.elim
    | areturn =>
      dsimp only at h
      split at h
      · next x => exact ab_x_ret (v := some (.ref x)) rfl hd h
      · exact ab_x_ret (v := some .null) rfl hd h
      · exact h.elim
    | return_ =>
      dsimp only at h
      split at h
      · exact ab_x_ret (v := none) rfl hd h
      · exact h.elim
    | _ => exact False.elim h
theorem ab_wp_sound (hy : ab_okc y 0 (ab_code y) = true) (cut : List Nat) : ∀ (f pc : Nat) (k : List ab_Ent) (ls : ab_L) (st : List Value) (w : ab_W) (n bc bs : Nat), ab_okc y pc k = true → ab_wp X l y cut Q f pc k ls st w n bc bs → ab_Ev X l y pc ls st w n bc bs Q
  | 0, _, _, _, _, _, _, _, _, _, h => h
  | f + 1, pc, k, ls, st, w, n, bc, bs, hk, h => by
    unfold ab_wp at h
    refine ab_step_sound hy hk (fun pc' k' ls' st' w' n' bc' bs' hk' h' => ?_) h
    split at h'
    · exact h'
    · exact ab_wp_sound hy cut f pc' k' ls' st' w' n' bc' bs' hk' h'
theorem ab_sound (hy : ab_okc y 0 (ab_code y) = true) (cut : List Nat) (f : Nat) (h : ab_wp X l y cut Q f pc (ab_sf y pc) ls st w n bc bs) : ab_Ev X l y pc ls st w n bc bs Q :=
  ab_wp_sound hy cut f pc (ab_sf y pc) ls st w n bc bs (ab_okc_drop pc _ 0 hy) h
end ABG
