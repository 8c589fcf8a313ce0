theorem ab_kp_len (ls : ab_L) (i : Nat) : (ab_kp ls i).length = ls.length := by
  unfold ab_kp
  split
  · rfl
  · split <;> simp
theorem ab_kp_get {ls : ab_L} {i j : Nat} {u : Value} (h : (ab_kp ls i)[j]? = some (some u)) : ls[j]? = some (some u) ∧ ¬ (j + 1 = i ∧ u.category = 2) := by
  unfold ab_kp at h
  split at h
  · exact ⟨h, fun z => by omega⟩
  · next j0 =>
    split at h
    · rename_i x hx
      by_cases e : j = j0
      · subst e
        rw [List.getElem?_set_self (List.getElem?_eq_some_iff.mp hx).1] at h
        cases h
      · rw [List.getElem?_set_ne (fun z => e z.symm)] at h
        exact ⟨h, fun z => e (by omega)⟩
    · rename_i x hx
      by_cases e : j = j0
      · subst e
        rw [List.getElem?_set_self (List.getElem?_eq_some_iff.mp hx).1] at h
        cases h
      · rw [List.getElem?_set_ne (fun z => e z.symm)] at h
        exact ⟨h, fun z => e (by omega)⟩
    · rename_i h1 h2
      refine ⟨h, fun z => ?_⟩
      have e : j = j0 := by omega
      subst e
      cases u with
      | long x => exact h1 x h
      | double x => exact h2 x h
      | _ => exact absurd (show (1 : Nat) = 2 from z.2) (by decide)
theorem ab_rl.get {X : ab_X} {ad : List Nat} {ls : ab_L} {lsr : Array Slot} {nL i : Nat} {v : Value} (h : ab_rl X ad ls lsr nL) (hi : ab_ld ls i = some v) : ∃ v', lsr[i]? = some (.val v') ∧ ab_rv X ad v v' := by
  obtain ⟨-, lv, h1, h2⟩ := h
  unfold ab_ld at hi
  split at hi
  · rename_i u hu
    cases hi
    obtain ⟨v', a, b⟩ := h2 i _ hu
    exact ⟨v', h1.2.2 _ a, b⟩
  · cases hi
theorem ab_rl.size {X : ab_X} {ad : List Nat} {ls : ab_L} {lsr : Array Slot} {nL : Nat} (h : ab_rl X ad ls lsr nL) : lsr.size = nL := by
  obtain ⟨-, lv, h1, -⟩ := h
  exact h1.1
theorem ab_rl.s1 {X : ab_X} {ad : List Nat} {ls : ab_L} {lsr : Array Slot} {nL i : Nat} {v v' : Value} {lv : List (Nat × Value)} (hl : ls.length = nL) (h2 : ∀ i v, ls[i]? = some (some v) → ∃ v', (i, v') ∈ lv ∧ ab_rv X ad v v') (hv : ab_rv X ad v v') (h : lv_has lsr nL ((i, v') :: lv.filter (fun q => !(q.1 == i) && !(q.1 + 1 == i && q.2.category == 2)))) : ab_rl X ad (ab_s1 ls i v) lsr nL := by
  refine ⟨by unfold ab_s1; rw [List.length_set, ab_kp_len]; exact hl, _, h, fun j u hj => ?_⟩
  unfold ab_s1 at hj
  by_cases e : j = i
  · subst e
    have hjl : j < (ab_kp ls j).length := by
      have := (List.getElem?_eq_some_iff.mp hj).1
      rwa [List.length_set] at this
    rw [List.getElem?_set_self hjl] at hj
    cases hj
    exact ⟨v', List.mem_cons_self, hv⟩
  · rw [List.getElem?_set_ne (fun z => e z.symm)] at hj
    obtain ⟨h3, h4⟩ := ab_kp_get hj
    obtain ⟨u', a, b⟩ := h2 j u h3
    refine ⟨u', List.mem_cons_of_mem _ (List.mem_filter.mpr ⟨a, ?_⟩), b⟩
    have hc := b.cat
    simp only [Bool.and_eq_true, Bool.not_eq_true', beq_eq_false_iff_ne, Bool.and_eq_false_iff]
    refine ⟨e, ?_⟩
    by_cases z : j + 1 = i
    · right
      intro q
      exact h4 ⟨z, by rw [← hc]; exact q⟩
    · left
      exact z
theorem ab_rl.s2 {X : ab_X} {ad : List Nat} {ls : ab_L} {lsr : Array Slot} {nL i : Nat} {v v' : Value} {lv : List (Nat × Value)} (hl : ls.length = nL) (h2 : ∀ i v, ls[i]? = some (some v) → ∃ v', (i, v') ∈ lv ∧ ab_rv X ad v v') (hv : ab_rv X ad v v') (h : lv_has lsr nL ((i, v') :: lv.filter (fun q => !(q.1 == i) && (!(q.1 == i + 1) && !(q.1 + 1 == i && q.2.category == 2))))) : ab_rl X ad (ab_s2 ls i v) lsr nL := by
  refine ⟨by unfold ab_s2; rw [List.length_set, List.length_set, ab_kp_len]; exact hl, _, h, fun j u hj => ?_⟩
  unfold ab_s2 at hj
  by_cases e1 : j = i + 1
  · subst e1
    have hjl := (List.getElem?_eq_some_iff.mp hj).1
    rw [List.length_set] at hjl
    rw [List.getElem?_set_self hjl] at hj
    cases hj
  rw [List.getElem?_set_ne (fun z => e1 z.symm)] at hj
  by_cases e : j = i
  · subst e
    have hjl : j < (ab_kp ls j).length := by
      have := (List.getElem?_eq_some_iff.mp hj).1
      rwa [List.length_set] at this
    rw [List.getElem?_set_self hjl] at hj
    cases hj
    exact ⟨v', List.mem_cons_self, hv⟩
  · rw [List.getElem?_set_ne (fun z => e z.symm)] at hj
    obtain ⟨h3, h4⟩ := ab_kp_get hj
    obtain ⟨u', a, b⟩ := h2 j u h3
    refine ⟨u', List.mem_cons_of_mem _ (List.mem_filter.mpr ⟨a, ?_⟩), b⟩
    have hc := b.cat
    simp only [Bool.and_eq_true, Bool.not_eq_true', beq_eq_false_iff_ne, Bool.and_eq_false_iff]
    refine ⟨e, e1, ?_⟩
    by_cases z : j + 1 = i
    · right
      intro q
      exact h4 ⟨z, by rw [← hc]; exact q⟩
    · left
      exact z
theorem ab_x_aload_n_ref {X : ab_X} {l : Launch} {y pc : Nat} {ls : ab_L} {st : List Value} {w : ab_W} {n bc bs : Nat} {Q : ab_Q} {j : Fin 4} {q : Nat} (hd : decode (ab_by y) pc = .ok (.aload_n j, 1)) (hv : ab_ld ls j.val = some (.ref q)) (h : ab_Ev X l y (pc + 1) ls ((.ref q) :: st) w n bc bs Q) : ab_Ev X l y pc ls st w n bc bs Q := by
  intro p e R s m args below meth c A ad0 Z hB hF H locs cells slots ad ws lsr str hh hl hs hc hsl
  have hx := hB.1
  have hb := hB.2.1
  obtain ⟨v', g1, g2⟩ := hl.get hv
  obtain ⟨z, g3, rfl⟩ := g2
  refine lv_aload_n hx hb hd rfl g1 ?_
  exact h p e R s m args below meth c A ad0 Z hB hF H locs cells slots ad ws lsr _ hh hl ⟨⟨z, g3, rfl⟩, hs⟩ hc hsl
theorem ab_x_aload_n_null {X : ab_X} {l : Launch} {y pc : Nat} {ls : ab_L} {st : List Value} {w : ab_W} {n bc bs : Nat} {Q : ab_Q} {j : Fin 4}  (hd : decode (ab_by y) pc = .ok (.aload_n j, 1)) (hv : ab_ld ls j.val = some (.null)) (h : ab_Ev X l y (pc + 1) ls ((.null) :: st) w n bc bs Q) : ab_Ev X l y pc ls st w n bc bs Q := by
  intro p e R s m args below meth c A ad0 Z hB hF H locs cells slots ad ws lsr str hh hl hs hc hsl
  have hx := hB.1
  have hb := hB.2.1
  obtain ⟨v', g1, g2⟩ := hl.get hv
  cases g2
  refine lv_aload_nN hx hb hd rfl g1 ?_
  exact h p e R s m args below meth c A ad0 Z hB hF H locs cells slots ad ws lsr _ hh hl ⟨rfl, hs⟩ hc hsl
theorem ab_x_aload_n_ra {X : ab_X} {l : Launch} {y pc : Nat} {ls : ab_L} {st : List Value} {w : ab_W} {n bc bs : Nat} {Q : ab_Q} {j : Fin 4} {q : Nat} (hd : decode (ab_by y) pc = .ok (.aload_n j, 1)) (hv : ab_ld ls j.val = some (.retAddr q)) (h : ab_Ev X l y (pc + 1) ls ((.retAddr q) :: st) w n bc bs Q) : ab_Ev X l y pc ls st w n bc bs Q := by
  intro p e R s m args below meth c A ad0 Z hB hF H locs cells slots ad ws lsr str hh hl hs hc hsl
  have hx := hB.1
  have hb := hB.2.1
  obtain ⟨v', g1, g2⟩ := hl.get hv
  cases g2
  refine lv_aload_n hx hb hd rfl g1 ?_
  exact h p e R s m args below meth c A ad0 Z hB hF H locs cells slots ad ws lsr _ hh hl ⟨rfl, hs⟩ hc hsl
theorem ab_x_aload_ref {X : ab_X} {l : Launch} {y pc : Nat} {ls : ab_L} {st : List Value} {w : ab_W} {n bc bs : Nat} {Q : ab_Q} {j : Nat} {q : Nat} (hd : decode (ab_by y) pc = .ok (.aload j, 2)) (hv : ab_ld ls j = some (.ref q)) (h : ab_Ev X l y (pc + 2) ls ((.ref q) :: st) w n bc bs Q) : ab_Ev X l y pc ls st w n bc bs Q := by
  intro p e R s m args below meth c A ad0 Z hB hF H locs cells slots ad ws lsr str hh hl hs hc hsl
  have hx := hB.1
  have hb := hB.2.1
  obtain ⟨v', g1, g2⟩ := hl.get hv
  obtain ⟨z, g3, rfl⟩ := g2
  refine lv_aload hx hb hd g1 ?_
  exact h p e R s m args below meth c A ad0 Z hB hF H locs cells slots ad ws lsr _ hh hl ⟨⟨z, g3, rfl⟩, hs⟩ hc hsl
theorem ab_x_aload_null {X : ab_X} {l : Launch} {y pc : Nat} {ls : ab_L} {st : List Value} {w : ab_W} {n bc bs : Nat} {Q : ab_Q} {j : Nat}  (hd : decode (ab_by y) pc = .ok (.aload j, 2)) (hv : ab_ld ls j = some (.null)) (h : ab_Ev X l y (pc + 2) ls ((.null) :: st) w n bc bs Q) : ab_Ev X l y pc ls st w n bc bs Q := by
  intro p e R s m args below meth c A ad0 Z hB hF H locs cells slots ad ws lsr str hh hl hs hc hsl
  have hx := hB.1
  have hb := hB.2.1
  obtain ⟨v', g1, g2⟩ := hl.get hv
  cases g2
  refine lv_aloadN hx hb hd g1 ?_
  exact h p e R s m args below meth c A ad0 Z hB hF H locs cells slots ad ws lsr _ hh hl ⟨rfl, hs⟩ hc hsl
theorem ab_x_aload_ra {X : ab_X} {l : Launch} {y pc : Nat} {ls : ab_L} {st : List Value} {w : ab_W} {n bc bs : Nat} {Q : ab_Q} {j : Nat} {q : Nat} (hd : decode (ab_by y) pc = .ok (.aload j, 2)) (hv : ab_ld ls j = some (.retAddr q)) (h : ab_Ev X l y (pc + 2) ls ((.retAddr q) :: st) w n bc bs Q) : ab_Ev X l y pc ls st w n bc bs Q := by
  intro p e R s m args below meth c A ad0 Z hB hF H locs cells slots ad ws lsr str hh hl hs hc hsl
  have hx := hB.1
  have hb := hB.2.1
  obtain ⟨v', g1, g2⟩ := hl.get hv
  cases g2
  refine lv_aload hx hb hd g1 ?_
  exact h p e R s m args below meth c A ad0 Z hB hF H locs cells slots ad ws lsr _ hh hl ⟨rfl, hs⟩ hc hsl
theorem ab_x_iload_n_i {X : ab_X} {l : Launch} {y pc : Nat} {ls : ab_L} {st : List Value} {w : ab_W} {n bc bs : Nat} {Q : ab_Q} {j : Fin 4} {x : Int32} (hd : decode (ab_by y) pc = .ok (.iload_n j, 1)) (hv : ab_ld ls j.val = some (.int x)) (h : ab_Ev X l y (pc + 1) ls ((.int x) :: st) w n bc bs Q) : ab_Ev X l y pc ls st w n bc bs Q := by
  intro p e R s m args below meth c A ad0 Z hB hF H locs cells slots ad ws lsr str hh hl hs hc hsl
  have hx := hB.1
  have hb := hB.2.1
  obtain ⟨v', g1, g2⟩ := hl.get hv
  cases g2
  refine lv_iload_n hx hb hd rfl g1 ?_
  exact h p e R s m args below meth c A ad0 Z hB hF H locs cells slots ad ws lsr _ hh hl ⟨rfl, hs⟩ hc hsl
theorem ab_x_iload_i {X : ab_X} {l : Launch} {y pc : Nat} {ls : ab_L} {st : List Value} {w : ab_W} {n bc bs : Nat} {Q : ab_Q} {j : Nat} {x : Int32} (hd : decode (ab_by y) pc = .ok (.iload j, 2)) (hv : ab_ld ls j = some (.int x)) (h : ab_Ev X l y (pc + 2) ls ((.int x) :: st) w n bc bs Q) : ab_Ev X l y pc ls st w n bc bs Q := by
  intro p e R s m args below meth c A ad0 Z hB hF H locs cells slots ad ws lsr str hh hl hs hc hsl
  have hx := hB.1
  have hb := hB.2.1
  obtain ⟨v', g1, g2⟩ := hl.get hv
  cases g2
  refine lv_iload hx hb hd g1 ?_
  exact h p e R s m args below meth c A ad0 Z hB hF H locs cells slots ad ws lsr _ hh hl ⟨rfl, hs⟩ hc hsl
theorem ab_x_lload_n_l {X : ab_X} {l : Launch} {y pc : Nat} {ls : ab_L} {st : List Value} {w : ab_W} {n bc bs : Nat} {Q : ab_Q} {j : Fin 4} {x : Int64} (hd : decode (ab_by y) pc = .ok (.lload_n j, 1)) (hv : ab_ld ls j.val = some (.long x)) (h : ab_Ev X l y (pc + 1) ls ((.long x) :: st) w n bc bs Q) : ab_Ev X l y pc ls st w n bc bs Q := by
  intro p e R s m args below meth c A ad0 Z hB hF H locs cells slots ad ws lsr str hh hl hs hc hsl
  have hx := hB.1
  have hb := hB.2.1
  obtain ⟨v', g1, g2⟩ := hl.get hv
  cases g2
  refine lv_lload_n hx hb hd rfl g1 ?_
  exact h p e R s m args below meth c A ad0 Z hB hF H locs cells slots ad ws lsr _ hh hl ⟨rfl, hs⟩ hc hsl
theorem ab_x_lload_l {X : ab_X} {l : Launch} {y pc : Nat} {ls : ab_L} {st : List Value} {w : ab_W} {n bc bs : Nat} {Q : ab_Q} {j : Nat} {x : Int64} (hd : decode (ab_by y) pc = .ok (.lload j, 2)) (hv : ab_ld ls j = some (.long x)) (h : ab_Ev X l y (pc + 2) ls ((.long x) :: st) w n bc bs Q) : ab_Ev X l y pc ls st w n bc bs Q := by
  intro p e R s m args below meth c A ad0 Z hB hF H locs cells slots ad ws lsr str hh hl hs hc hsl
  have hx := hB.1
  have hb := hB.2.1
  obtain ⟨v', g1, g2⟩ := hl.get hv
  cases g2
  refine lv_lload hx hb hd g1 ?_
  exact h p e R s m args below meth c A ad0 Z hB hF H locs cells slots ad ws lsr _ hh hl ⟨rfl, hs⟩ hc hsl
theorem ab_x_iconst {X : ab_X} {l : Launch} {y pc : Nat} {ls : ab_L} {st : List Value} {w : ab_W} {n bc bs : Nat} {Q : ab_Q} {z : Int} {v : Int32} (hd : decode (ab_by y) pc = .ok (.iconst z, 1)) (hv : Int32.ofInt z = v) (h : ab_Ev X l y (pc + 1) ls (.int v :: st) w n bc bs Q) : ab_Ev X l y pc ls st w n bc bs Q := by
  intro p e R s m args below meth c A ad0 Z hB hF H locs cells slots ad ws lsr str hh hl hs hc hsl
  have hx := hB.1
  have hb := hB.2.1
  refine lv_iconst hx hb hd hv ?_
  exact h p e R s m args below meth c A ad0 Z hB hF H locs cells slots ad ws lsr _ hh hl ⟨rfl, hs⟩ hc hsl
theorem ab_x_bipush {X : ab_X} {l : Launch} {y pc : Nat} {ls : ab_L} {st : List Value} {w : ab_W} {n bc bs : Nat} {Q : ab_Q} {z : Int} {v : Int32} (hd : decode (ab_by y) pc = .ok (.bipush z, 2)) (hv : (Int8.ofInt z).toInt32 = v) (h : ab_Ev X l y (pc + 2) ls (.int v :: st) w n bc bs Q) : ab_Ev X l y pc ls st w n bc bs Q := by
  intro p e R s m args below meth c A ad0 Z hB hF H locs cells slots ad ws lsr str hh hl hs hc hsl
  have hx := hB.1
  have hb := hB.2.1
  refine lv_bipush hx hb hd hv ?_
  exact h p e R s m args below meth c A ad0 Z hB hF H locs cells slots ad ws lsr _ hh hl ⟨rfl, hs⟩ hc hsl
theorem ab_x_sipush {X : ab_X} {l : Launch} {y pc : Nat} {ls : ab_L} {st : List Value} {w : ab_W} {n bc bs : Nat} {Q : ab_Q} {z : Int} {v : Int32} (hd : decode (ab_by y) pc = .ok (.sipush z, 3)) (hv : (Int16.ofInt z).toInt32 = v) (h : ab_Ev X l y (pc + 3) ls (.int v :: st) w n bc bs Q) : ab_Ev X l y pc ls st w n bc bs Q := by
  intro p e R s m args below meth c A ad0 Z hB hF H locs cells slots ad ws lsr str hh hl hs hc hsl
  have hx := hB.1
  have hb := hB.2.1
  refine lv_sipush hx hb hd hv ?_
  exact h p e R s m args below meth c A ad0 Z hB hF H locs cells slots ad ws lsr _ hh hl ⟨rfl, hs⟩ hc hsl
theorem ab_x_lconst {X : ab_X} {l : Launch} {y pc : Nat} {ls : ab_L} {st : List Value} {w : ab_W} {n bc bs : Nat} {Q : ab_Q} {z : Fin 2} (hd : decode (ab_by y) pc = .ok (.lconst z, 1)) (h : ab_Ev X l y (pc + 1) ls (.long (lN z.val) :: st) w n bc bs Q) : ab_Ev X l y pc ls st w n bc bs Q := by
  intro p e R s m args below meth c A ad0 Z hB hF H locs cells slots ad ws lsr str hh hl hs hc hsl
  have hx := hB.1
  have hb := hB.2.1
  refine lv_lconst hx hb hd rfl ?_
  exact h p e R s m args below meth c A ad0 Z hB hF H locs cells slots ad ws lsr _ hh hl ⟨rfl, hs⟩ hc hsl
theorem ab_x_null {X : ab_X} {l : Launch} {y pc : Nat} {ls : ab_L} {st : List Value} {w : ab_W} {n bc bs : Nat} {Q : ab_Q} (hd : decode (ab_by y) pc = .ok (.aconst_null, 1)) (h : ab_Ev X l y (pc + 1) ls (.null :: st) w n bc bs Q) : ab_Ev X l y pc ls st w n bc bs Q := by
  intro p e R s m args below meth c A ad0 Z hB hF H locs cells slots ad ws lsr str hh hl hs hc hsl
  have hx := hB.1
  have hb := hB.2.1
  refine lv_null hx hb hd ?_
  exact h p e R s m args below meth c A ad0 Z hB hF H locs cells slots ad ws lsr _ hh hl ⟨rfl, hs⟩ hc hsl
theorem ab_x_ldc2 {X : ab_X} {l : Launch} {y pc : Nat} {ls : ab_L} {st : List Value} {w : ab_W} {n bc bs : Nat} {Q : ab_Q} {i : Nat} {v : Int64} (hd : decode (ab_by y) pc = .ok (.ldc2_w i, 3)) (hw : Cond.constantLong (ab_cn (ab_oc y)) i v ∈ lw_tbl) (h : ab_Ev X l y (pc + 3) ls (.long v :: st) w n bc bs Q) : ab_Ev X l y pc ls st w n bc bs Q := by
  intro p e R s m args below meth c A ad0 Z hB hF H locs cells slots ad ws lsr str hh hl hs hc hsl
  have hx := hB.1
  have hb := hB.2.1
  refine lv_ldc2 hx hb hB.2.2.2.2.1 (hB.2.2.2.2.2.1 _ (ab_tbm hw rfl)) hd ?_
  exact h p e R s m args below meth c A ad0 Z hB hF H locs cells slots ad ws lsr _ hh hl ⟨rfl, hs⟩ hc hsl
theorem ab_x_istore_n_i {X : ab_X} {l : Launch} {y pc : Nat} {ls : ab_L} {st : List Value} {w : ab_W} {n bc bs : Nat} {Q : ab_Q} {j : Fin 4} {x : Int32} (hd : decode (ab_by y) pc = .ok (.istore_n j, 1)) (hm : j.val < ab_mx y) (h : ab_Ev X l y (pc + 1) (ab_s1 ls j.val (.int x)) st w n bc bs Q) : ab_Ev X l y pc ls ((.int x) :: st) w n bc bs Q := by
  intro p e R s m args below meth c A ad0 Z hB hF H locs cells slots ad ws lsr str hh hl hs hc hsl
  have hx := hB.1
  have hb := hB.2.1
  match str, hs with
  | v' :: str, ⟨g, hs⟩ =>
    obtain ⟨h1, lv, h2, h3⟩ := hl
    cases g
    refine lv_istore_n hx hb hd rfl h2 hm rfl (fun ls9 h9 => ?_)
    exact h p e R s m args below meth c A ad0 Z hB hF H locs cells slots ad ws ls9 _ hh (ab_rl.s1 h1 h3 rfl h9) hs hc hsl
theorem ab_x_istore_i {X : ab_X} {l : Launch} {y pc : Nat} {ls : ab_L} {st : List Value} {w : ab_W} {n bc bs : Nat} {Q : ab_Q} {j : Nat} {x : Int32} (hd : decode (ab_by y) pc = .ok (.istore j, 2)) (hm : j < ab_mx y) (h : ab_Ev X l y (pc + 2) (ab_s1 ls j (.int x)) st w n bc bs Q) : ab_Ev X l y pc ls ((.int x) :: st) w n bc bs Q := by
  intro p e R s m args below meth c A ad0 Z hB hF H locs cells slots ad ws lsr str hh hl hs hc hsl
  have hx := hB.1
  have hb := hB.2.1
  match str, hs with
  | v' :: str, ⟨g, hs⟩ =>
    obtain ⟨h1, lv, h2, h3⟩ := hl
    cases g
    refine lv_istore hx hb hd h2 hm rfl (fun ls9 h9 => ?_)
    exact h p e R s m args below meth c A ad0 Z hB hF H locs cells slots ad ws ls9 _ hh (ab_rl.s1 h1 h3 rfl h9) hs hc hsl
theorem ab_x_lstore_n_l {X : ab_X} {l : Launch} {y pc : Nat} {ls : ab_L} {st : List Value} {w : ab_W} {n bc bs : Nat} {Q : ab_Q} {j : Fin 4} {x : Int64} (hd : decode (ab_by y) pc = .ok (.lstore_n j, 1)) (hm : j.val + 1 < ab_mx y) (h : ab_Ev X l y (pc + 1) (ab_s2 ls j.val (.long x)) st w n bc bs Q) : ab_Ev X l y pc ls ((.long x) :: st) w n bc bs Q := by
  intro p e R s m args below meth c A ad0 Z hB hF H locs cells slots ad ws lsr str hh hl hs hc hsl
  have hx := hB.1
  have hb := hB.2.1
  match str, hs with
  | v' :: str, ⟨g, hs⟩ =>
    obtain ⟨h1, lv, h2, h3⟩ := hl
    cases g
    refine lv_lstore_n hx hb hd rfl h2 hm rfl (fun ls9 h9 => ?_)
    exact h p e R s m args below meth c A ad0 Z hB hF H locs cells slots ad ws ls9 _ hh (ab_rl.s2 h1 h3 rfl h9) hs hc hsl
theorem ab_x_lstore_l {X : ab_X} {l : Launch} {y pc : Nat} {ls : ab_L} {st : List Value} {w : ab_W} {n bc bs : Nat} {Q : ab_Q} {j : Nat} {x : Int64} (hd : decode (ab_by y) pc = .ok (.lstore j, 2)) (hm : j + 1 < ab_mx y) (h : ab_Ev X l y (pc + 2) (ab_s2 ls j (.long x)) st w n bc bs Q) : ab_Ev X l y pc ls ((.long x) :: st) w n bc bs Q := by
  intro p e R s m args below meth c A ad0 Z hB hF H locs cells slots ad ws lsr str hh hl hs hc hsl
  have hx := hB.1
  have hb := hB.2.1
  match str, hs with
  | v' :: str, ⟨g, hs⟩ =>
    obtain ⟨h1, lv, h2, h3⟩ := hl
    cases g
    refine lv_lstore hx hb hd h2 hm rfl (fun ls9 h9 => ?_)
    exact h p e R s m args below meth c A ad0 Z hB hF H locs cells slots ad ws ls9 _ hh (ab_rl.s2 h1 h3 rfl h9) hs hc hsl
theorem ab_x_astore_n_ref {X : ab_X} {l : Launch} {y pc : Nat} {ls : ab_L} {st : List Value} {w : ab_W} {n bc bs : Nat} {Q : ab_Q} {j : Fin 4} {q : Nat} (hd : decode (ab_by y) pc = .ok (.astore_n j, 1)) (hm : j.val < ab_mx y) (h : ab_Ev X l y (pc + 1) (ab_s1 ls j.val (.ref q)) st w n bc bs Q) : ab_Ev X l y pc ls ((.ref q) :: st) w n bc bs Q := by
  intro p e R s m args below meth c A ad0 Z hB hF H locs cells slots ad ws lsr str hh hl hs hc hsl
  have hx := hB.1
  have hb := hB.2.1
  match str, hs with
  | v' :: str, ⟨g, hs⟩ =>
    obtain ⟨h1, lv, h2, h3⟩ := hl
    obtain ⟨z, g3, rfl⟩ := g
    refine lv_astore_n hx hb hd rfl h2 hm rfl (fun ls9 h9 => ?_)
    exact h p e R s m args below meth c A ad0 Z hB hF H locs cells slots ad ws ls9 _ hh (ab_rl.s1 h1 h3 ⟨z, g3, rfl⟩ h9) hs hc hsl
theorem ab_x_astore_n_null {X : ab_X} {l : Launch} {y pc : Nat} {ls : ab_L} {st : List Value} {w : ab_W} {n bc bs : Nat} {Q : ab_Q} {j : Fin 4}  (hd : decode (ab_by y) pc = .ok (.astore_n j, 1)) (hm : j.val < ab_mx y) (h : ab_Ev X l y (pc + 1) (ab_s1 ls j.val (.null)) st w n bc bs Q) : ab_Ev X l y pc ls ((.null) :: st) w n bc bs Q := by
  intro p e R s m args below meth c A ad0 Z hB hF H locs cells slots ad ws lsr str hh hl hs hc hsl
  have hx := hB.1
  have hb := hB.2.1
  match str, hs with
  | v' :: str, ⟨g, hs⟩ =>
    obtain ⟨h1, lv, h2, h3⟩ := hl
    cases g
    refine lv_astore_nN hx hb hd rfl h2 hm rfl (fun ls9 h9 => ?_)
    exact h p e R s m args below meth c A ad0 Z hB hF H locs cells slots ad ws ls9 _ hh (ab_rl.s1 h1 h3 rfl h9) hs hc hsl
theorem ab_x_astore_ref {X : ab_X} {l : Launch} {y pc : Nat} {ls : ab_L} {st : List Value} {w : ab_W} {n bc bs : Nat} {Q : ab_Q} {j : Nat} {q : Nat} (hd : decode (ab_by y) pc = .ok (.astore j, 2)) (hm : j < ab_mx y) (h : ab_Ev X l y (pc + 2) (ab_s1 ls j (.ref q)) st w n bc bs Q) : ab_Ev X l y pc ls ((.ref q) :: st) w n bc bs Q := by
  intro p e R s m args below meth c A ad0 Z hB hF H locs cells slots ad ws lsr str hh hl hs hc hsl
  have hx := hB.1
  have hb := hB.2.1
  match str, hs with
  | v' :: str, ⟨g, hs⟩ =>
    obtain ⟨h1, lv, h2, h3⟩ := hl
    obtain ⟨z, g3, rfl⟩ := g
    refine lv_astore hx hb hd h2 hm rfl (fun ls9 h9 => ?_)
    exact h p e R s m args below meth c A ad0 Z hB hF H locs cells slots ad ws ls9 _ hh (ab_rl.s1 h1 h3 ⟨z, g3, rfl⟩ h9) hs hc hsl
theorem ab_x_astore_null {X : ab_X} {l : Launch} {y pc : Nat} {ls : ab_L} {st : List Value} {w : ab_W} {n bc bs : Nat} {Q : ab_Q} {j : Nat}  (hd : decode (ab_by y) pc = .ok (.astore j, 2)) (hm : j < ab_mx y) (h : ab_Ev X l y (pc + 2) (ab_s1 ls j (.null)) st w n bc bs Q) : ab_Ev X l y pc ls ((.null) :: st) w n bc bs Q := by
  intro p e R s m args below meth c A ad0 Z hB hF H locs cells slots ad ws lsr str hh hl hs hc hsl
  have hx := hB.1
  have hb := hB.2.1
  match str, hs with
  | v' :: str, ⟨g, hs⟩ =>
    obtain ⟨h1, lv, h2, h3⟩ := hl
    cases g
    refine lv_astoreN hx hb hd h2 hm rfl (fun ls9 h9 => ?_)
    exact h p e R s m args below meth c A ad0 Z hB hF H locs cells slots ad ws ls9 _ hh (ab_rl.s1 h1 h3 rfl h9) hs hc hsl
theorem ab_x_iinc_p {X : ab_X} {l : Launch} {y pc : Nat} {ls : ab_L} {st : List Value} {w : ab_W} {n bc bs : Nat} {Q : ab_Q} {j b : Nat} {z : Int} {x : Int32} (hd : decode (ab_by y) pc = .ok (.iinc j z, 3)) (hm : j < ab_mx y) (hz : Int32.ofInt z = nI b) (hv : ab_ld ls j = some (.int x)) (h : ab_Ev X l y (pc + 3) (ab_s1 ls j (.int (x + nI b))) st w n bc bs Q) : ab_Ev X l y pc ls st w n bc bs Q := by
  intro p e R s m args below meth c A ad0 Z hB hF H locs cells slots ad ws lsr str hh hl hs hc hsl
  have hx := hB.1
  have hb := hB.2.1
  obtain ⟨h1, lv, h2, h3⟩ := hl
  have hv2 : ls[j]? = some (some (.int x)) := by
    unfold ab_ld at hv
    split at hv
    · rename_i u hu
      cases hv
      exact hu
    · cases hv
  obtain ⟨v', g1, g2⟩ := h3 j _ hv2
  cases g2
  obtain ⟨k9, hk9⟩ := List.getElem?_of_mem g1
  refine lv_iinc (v := x + nI b) hx hb hd h2 hk9 (by rw [hz]) hm rfl (fun ls9 h9 => ?_)
  exact h p e R s m args below meth c A ad0 Z hB hF H locs cells slots ad ws ls9 _ hh (ab_rl.s1 h1 h3 rfl h9) hs hc hsl
theorem ab_x_iinc_m {X : ab_X} {l : Launch} {y pc : Nat} {ls : ab_L} {st : List Value} {w : ab_W} {n bc bs : Nat} {Q : ab_Q} {j b : Nat} {z : Int} {x : Int32} (hd : decode (ab_by y) pc = .ok (.iinc j z, 3)) (hm : j < ab_mx y) (hz : Int32.ofInt z = -nI b) (hv : ab_ld ls j = some (.int x)) (h : ab_Ev X l y (pc + 3) (ab_s1 ls j (.int (x - nI b))) st w n bc bs Q) : ab_Ev X l y pc ls st w n bc bs Q := by
  intro p e R s m args below meth c A ad0 Z hB hF H locs cells slots ad ws lsr str hh hl hs hc hsl
  have hx := hB.1
  have hb := hB.2.1
  obtain ⟨h1, lv, h2, h3⟩ := hl
  have hv2 : ls[j]? = some (some (.int x)) := by
    unfold ab_ld at hv
    split at hv
    · rename_i u hu
      cases hv
      exact hu
    · cases hv
  obtain ⟨v', g1, g2⟩ := h3 j _ hv2
  cases g2
  obtain ⟨k9, hk9⟩ := List.getElem?_of_mem g1
  refine lv_iinc (v := x - nI b) hx hb hd h2 hk9 (by rw [hz]; exact (Int32.sub_eq_add_neg x (nI b)).symm) hm rfl (fun ls9 h9 => ?_)
  exact h p e R s m args below meth c A ad0 Z hB hF H locs cells slots ad ws ls9 _ hh (ab_rl.s1 h1 h3 rfl h9) hs hc hsl
theorem ab_x_iadd {X : ab_X} {l : Launch} {y pc : Nat} {ls : ab_L} {st : List Value} {w : ab_W} {n bc bs : Nat} {Q : ab_Q} {x z : Int32} (hd : decode (ab_by y) pc = .ok (.iadd, 1)) (h : ab_Ev X l y (pc + 1) ls (.int (x + z) :: st) w n bc bs Q) : ab_Ev X l y pc ls (.int z :: .int x :: st) w n bc bs Q := by
  intro p e R s m args below meth c A ad0 Z hB hF H locs cells slots ad ws lsr str hh hl hs hc hsl
  have hx := hB.1
  have hb := hB.2.1
  match str, hs with
  | _ :: _ :: str, ⟨g1, g2, hs⟩ =>
    cases g1
    cases g2
    refine lv_iadd hx hb hd  ?_
    exact h p e R s m args below meth c A ad0 Z hB hF H locs cells slots ad ws lsr _ hh hl ⟨rfl, hs⟩ hc hsl
theorem ab_x_isub {X : ab_X} {l : Launch} {y pc : Nat} {ls : ab_L} {st : List Value} {w : ab_W} {n bc bs : Nat} {Q : ab_Q} {x z : Int32} (hd : decode (ab_by y) pc = .ok (.isub, 1)) (h : ab_Ev X l y (pc + 1) ls (.int (x - z) :: st) w n bc bs Q) : ab_Ev X l y pc ls (.int z :: .int x :: st) w n bc bs Q := by
  intro p e R s m args below meth c A ad0 Z hB hF H locs cells slots ad ws lsr str hh hl hs hc hsl
  have hx := hB.1
  have hb := hB.2.1
  match str, hs with
  | _ :: _ :: str, ⟨g1, g2, hs⟩ =>
    cases g1
    cases g2
    refine lv_isub hx hb hd  ?_
    exact h p e R s m args below meth c A ad0 Z hB hF H locs cells slots ad ws lsr _ hh hl ⟨rfl, hs⟩ hc hsl
theorem ab_x_imul {X : ab_X} {l : Launch} {y pc : Nat} {ls : ab_L} {st : List Value} {w : ab_W} {n bc bs : Nat} {Q : ab_Q} {x z : Int32} (hd : decode (ab_by y) pc = .ok (.imul, 1)) (h : ab_Ev X l y (pc + 1) ls (.int (x * z) :: st) w n bc bs Q) : ab_Ev X l y pc ls (.int z :: .int x :: st) w n bc bs Q := by
  intro p e R s m args below meth c A ad0 Z hB hF H locs cells slots ad ws lsr str hh hl hs hc hsl
  have hx := hB.1
  have hb := hB.2.1
  match str, hs with
  | _ :: _ :: str, ⟨g1, g2, hs⟩ =>
    cases g1
    cases g2
    refine lv_imul hx hb hd  ?_
    exact h p e R s m args below meth c A ad0 Z hB hF H locs cells slots ad ws lsr _ hh hl ⟨rfl, hs⟩ hc hsl
theorem ab_x_iand {X : ab_X} {l : Launch} {y pc : Nat} {ls : ab_L} {st : List Value} {w : ab_W} {n bc bs : Nat} {Q : ab_Q} {x z : Int32} (hd : decode (ab_by y) pc = .ok (.iand, 1)) (h : ab_Ev X l y (pc + 1) ls (.int (x &&& z) :: st) w n bc bs Q) : ab_Ev X l y pc ls (.int z :: .int x :: st) w n bc bs Q := by
  intro p e R s m args below meth c A ad0 Z hB hF H locs cells slots ad ws lsr str hh hl hs hc hsl
  have hx := hB.1
  have hb := hB.2.1
  match str, hs with
  | _ :: _ :: str, ⟨g1, g2, hs⟩ =>
    cases g1
    cases g2
    refine lv_iand hx hb hd  ?_
    exact h p e R s m args below meth c A ad0 Z hB hF H locs cells slots ad ws lsr _ hh hl ⟨rfl, hs⟩ hc hsl
theorem ab_x_ior {X : ab_X} {l : Launch} {y pc : Nat} {ls : ab_L} {st : List Value} {w : ab_W} {n bc bs : Nat} {Q : ab_Q} {x z : Int32} (hd : decode (ab_by y) pc = .ok (.ior, 1)) (h : ab_Ev X l y (pc + 1) ls (.int (x ||| z) :: st) w n bc bs Q) : ab_Ev X l y pc ls (.int z :: .int x :: st) w n bc bs Q := by
  intro p e R s m args below meth c A ad0 Z hB hF H locs cells slots ad ws lsr str hh hl hs hc hsl
  have hx := hB.1
  have hb := hB.2.1
  match str, hs with
  | _ :: _ :: str, ⟨g1, g2, hs⟩ =>
    cases g1
    cases g2
    refine lv_ior hx hb hd  ?_
    exact h p e R s m args below meth c A ad0 Z hB hF H locs cells slots ad ws lsr _ hh hl ⟨rfl, hs⟩ hc hsl
theorem ab_x_ixor {X : ab_X} {l : Launch} {y pc : Nat} {ls : ab_L} {st : List Value} {w : ab_W} {n bc bs : Nat} {Q : ab_Q} {x z : Int32} (hd : decode (ab_by y) pc = .ok (.ixor, 1)) (h : ab_Ev X l y (pc + 1) ls (.int (x ^^^ z) :: st) w n bc bs Q) : ab_Ev X l y pc ls (.int z :: .int x :: st) w n bc bs Q := by
  intro p e R s m args below meth c A ad0 Z hB hF H locs cells slots ad ws lsr str hh hl hs hc hsl
  have hx := hB.1
  have hb := hB.2.1
  match str, hs with
  | _ :: _ :: str, ⟨g1, g2, hs⟩ =>
    cases g1
    cases g2
    refine lv_ixor hx hb hd  ?_
    exact h p e R s m args below meth c A ad0 Z hB hF H locs cells slots ad ws lsr _ hh hl ⟨rfl, hs⟩ hc hsl
theorem ab_x_ishl {X : ab_X} {l : Launch} {y pc : Nat} {ls : ab_L} {st : List Value} {w : ab_W} {n bc bs : Nat} {Q : ab_Q} {x z : Int32} (hd : decode (ab_by y) pc = .ok (.ishl, 1)) (h : ab_Ev X l y (pc + 1) ls (.int (x <<< (z &&& 31)) :: st) w n bc bs Q) : ab_Ev X l y pc ls (.int z :: .int x :: st) w n bc bs Q := by
  intro p e R s m args below meth c A ad0 Z hB hF H locs cells slots ad ws lsr str hh hl hs hc hsl
  have hx := hB.1
  have hb := hB.2.1
  match str, hs with
  | _ :: _ :: str, ⟨g1, g2, hs⟩ =>
    cases g1
    cases g2
    refine lv_ishl hx hb hd  ?_
    exact h p e R s m args below meth c A ad0 Z hB hF H locs cells slots ad ws lsr _ hh hl ⟨rfl, hs⟩ hc hsl
theorem ab_x_ishr {X : ab_X} {l : Launch} {y pc : Nat} {ls : ab_L} {st : List Value} {w : ab_W} {n bc bs : Nat} {Q : ab_Q} {x z : Int32} (hd : decode (ab_by y) pc = .ok (.ishr, 1)) (h : ab_Ev X l y (pc + 1) ls (.int (x >>> (z &&& 31)) :: st) w n bc bs Q) : ab_Ev X l y pc ls (.int z :: .int x :: st) w n bc bs Q := by
  intro p e R s m args below meth c A ad0 Z hB hF H locs cells slots ad ws lsr str hh hl hs hc hsl
  have hx := hB.1
  have hb := hB.2.1
  match str, hs with
  | _ :: _ :: str, ⟨g1, g2, hs⟩ =>
    cases g1
    cases g2
    refine lv_ishr hx hb hd  ?_
    exact h p e R s m args below meth c A ad0 Z hB hF H locs cells slots ad ws lsr _ hh hl ⟨rfl, hs⟩ hc hsl
theorem ab_x_idiv {X : ab_X} {l : Launch} {y pc : Nat} {ls : ab_L} {st : List Value} {w : ab_W} {n bc bs : Nat} {Q : ab_Q} {x z : Int32} (hd : decode (ab_by y) pc = .ok (.idiv, 1)) (hne : ¬ z = 0) (h : ab_Ev X l y (pc + 1) ls (.int (x / z) :: st) w n bc bs Q) : ab_Ev X l y pc ls (.int z :: .int x :: st) w n bc bs Q := by
  intro p e R s m args below meth c A ad0 Z hB hF H locs cells slots ad ws lsr str hh hl hs hc hsl
  have hx := hB.1
  have hb := hB.2.1
  match str, hs with
  | _ :: _ :: str, ⟨g1, g2, hs⟩ =>
    cases g1
    cases g2
    refine lv_idiv hx hb hd hne ?_
    exact h p e R s m args below meth c A ad0 Z hB hF H locs cells slots ad ws lsr _ hh hl ⟨rfl, hs⟩ hc hsl
theorem ab_x_irem {X : ab_X} {l : Launch} {y pc : Nat} {ls : ab_L} {st : List Value} {w : ab_W} {n bc bs : Nat} {Q : ab_Q} {x z : Int32} (hd : decode (ab_by y) pc = .ok (.irem, 1)) (hne : ¬ z = 0) (h : ab_Ev X l y (pc + 1) ls (.int (x - x / z * z) :: st) w n bc bs Q) : ab_Ev X l y pc ls (.int z :: .int x :: st) w n bc bs Q := by
  intro p e R s m args below meth c A ad0 Z hB hF H locs cells slots ad ws lsr str hh hl hs hc hsl
  have hx := hB.1
  have hb := hB.2.1
  match str, hs with
  | _ :: _ :: str, ⟨g1, g2, hs⟩ =>
    cases g1
    cases g2
    refine lv_irem hx hb hd hne ?_
    exact h p e R s m args below meth c A ad0 Z hB hF H locs cells slots ad ws lsr _ hh hl ⟨rfl, hs⟩ hc hsl
theorem ab_x_iushr {X : ab_X} {l : Launch} {y pc : Nat} {ls : ab_L} {st : List Value} {w : ab_W} {n bc bs : Nat} {Q : ab_Q} {x z : Int32} (hd : decode (ab_by y) pc = .ok (.iushr, 1)) (h : ab_Ev X l y (pc + 1) ls (.int (x.toUInt32 >>> (z.toUInt32 &&& Int32.toUInt32 31)).toInt32 :: st) w n bc bs Q) : ab_Ev X l y pc ls (.int z :: .int x :: st) w n bc bs Q := by
  intro p e R s m args below meth c A ad0 Z hB hF H locs cells slots ad ws lsr str hh hl hs hc hsl
  have hx := hB.1
  have hb := hB.2.1
  match str, hs with
  | _ :: _ :: str, ⟨g1, g2, hs⟩ =>
    cases g1
    cases g2
    refine lv_iushr hx hb hd rfl ?_
    exact h p e R s m args below meth c A ad0 Z hB hF H locs cells slots ad ws lsr _ hh hl ⟨rfl, hs⟩ hc hsl
theorem ab_x_ladd {X : ab_X} {l : Launch} {y pc : Nat} {ls : ab_L} {st : List Value} {w : ab_W} {n bc bs : Nat} {Q : ab_Q} {x z : Int64} (hd : decode (ab_by y) pc = .ok (.ladd, 1)) (h : ab_Ev X l y (pc + 1) ls (.long (x + z) :: st) w n bc bs Q) : ab_Ev X l y pc ls (.long z :: .long x :: st) w n bc bs Q := by
  intro p e R s m args below meth c A ad0 Z hB hF H locs cells slots ad ws lsr str hh hl hs hc hsl
  have hx := hB.1
  have hb := hB.2.1
  match str, hs with
  | _ :: _ :: str, ⟨g1, g2, hs⟩ =>
    cases g1
    cases g2
    refine lv_ladd hx hb hd  ?_
    exact h p e R s m args below meth c A ad0 Z hB hF H locs cells slots ad ws lsr _ hh hl ⟨rfl, hs⟩ hc hsl
theorem ab_x_lsub {X : ab_X} {l : Launch} {y pc : Nat} {ls : ab_L} {st : List Value} {w : ab_W} {n bc bs : Nat} {Q : ab_Q} {x z : Int64} (hd : decode (ab_by y) pc = .ok (.lsub, 1)) (h : ab_Ev X l y (pc + 1) ls (.long (x - z) :: st) w n bc bs Q) : ab_Ev X l y pc ls (.long z :: .long x :: st) w n bc bs Q := by
  intro p e R s m args below meth c A ad0 Z hB hF H locs cells slots ad ws lsr str hh hl hs hc hsl
  have hx := hB.1
  have hb := hB.2.1
  match str, hs with
  | _ :: _ :: str, ⟨g1, g2, hs⟩ =>
    cases g1
    cases g2
    refine lv_lsub hx hb hd  ?_
    exact h p e R s m args below meth c A ad0 Z hB hF H locs cells slots ad ws lsr _ hh hl ⟨rfl, hs⟩ hc hsl
theorem ab_x_lmul {X : ab_X} {l : Launch} {y pc : Nat} {ls : ab_L} {st : List Value} {w : ab_W} {n bc bs : Nat} {Q : ab_Q} {x z : Int64} (hd : decode (ab_by y) pc = .ok (.lmul, 1)) (h : ab_Ev X l y (pc + 1) ls (.long (x * z) :: st) w n bc bs Q) : ab_Ev X l y pc ls (.long z :: .long x :: st) w n bc bs Q := by
  intro p e R s m args below meth c A ad0 Z hB hF H locs cells slots ad ws lsr str hh hl hs hc hsl
  have hx := hB.1
  have hb := hB.2.1
  match str, hs with
  | _ :: _ :: str, ⟨g1, g2, hs⟩ =>
    cases g1
    cases g2
    refine lv_lmul hx hb hd  ?_
    exact h p e R s m args below meth c A ad0 Z hB hF H locs cells slots ad ws lsr _ hh hl ⟨rfl, hs⟩ hc hsl
theorem ab_x_lxor {X : ab_X} {l : Launch} {y pc : Nat} {ls : ab_L} {st : List Value} {w : ab_W} {n bc bs : Nat} {Q : ab_Q} {x z : Int64} (hd : decode (ab_by y) pc = .ok (.lxor, 1)) (h : ab_Ev X l y (pc + 1) ls (.long (x ^^^ z) :: st) w n bc bs Q) : ab_Ev X l y pc ls (.long z :: .long x :: st) w n bc bs Q := by
  intro p e R s m args below meth c A ad0 Z hB hF H locs cells slots ad ws lsr str hh hl hs hc hsl
  have hx := hB.1
  have hb := hB.2.1
  match str, hs with
  | _ :: _ :: str, ⟨g1, g2, hs⟩ =>
    cases g1
    cases g2
    refine lv_lxor hx hb hd  ?_
    exact h p e R s m args below meth c A ad0 Z hB hF H locs cells slots ad ws lsr _ hh hl ⟨rfl, hs⟩ hc hsl
theorem ab_x_ldiv {X : ab_X} {l : Launch} {y pc : Nat} {ls : ab_L} {st : List Value} {w : ab_W} {n bc bs : Nat} {Q : ab_Q} {x z : Int64} (hd : decode (ab_by y) pc = .ok (.ldiv, 1)) (hne : ¬ z = 0) (h : ab_Ev X l y (pc + 1) ls (.long (x / z) :: st) w n bc bs Q) : ab_Ev X l y pc ls (.long z :: .long x :: st) w n bc bs Q := by
  intro p e R s m args below meth c A ad0 Z hB hF H locs cells slots ad ws lsr str hh hl hs hc hsl
  have hx := hB.1
  have hb := hB.2.1
  match str, hs with
  | _ :: _ :: str, ⟨g1, g2, hs⟩ =>
    cases g1
    cases g2
    refine lv_ldiv hx hb hd hne ?_
    exact h p e R s m args below meth c A ad0 Z hB hF H locs cells slots ad ws lsr _ hh hl ⟨rfl, hs⟩ hc hsl
theorem ab_x_lrem {X : ab_X} {l : Launch} {y pc : Nat} {ls : ab_L} {st : List Value} {w : ab_W} {n bc bs : Nat} {Q : ab_Q} {x z : Int64} (hd : decode (ab_by y) pc = .ok (.lrem, 1)) (hne : ¬ z = 0) (h : ab_Ev X l y (pc + 1) ls (.long (x - x / z * z) :: st) w n bc bs Q) : ab_Ev X l y pc ls (.long z :: .long x :: st) w n bc bs Q := by
  intro p e R s m args below meth c A ad0 Z hB hF H locs cells slots ad ws lsr str hh hl hs hc hsl
  have hx := hB.1
  have hb := hB.2.1
  match str, hs with
  | _ :: _ :: str, ⟨g1, g2, hs⟩ =>
    cases g1
    cases g2
    refine lv_lrem hx hb hd hne ?_
    exact h p e R s m args below meth c A ad0 Z hB hF H locs cells slots ad ws lsr _ hh hl ⟨rfl, hs⟩ hc hsl
theorem ab_x_lcmp {X : ab_X} {l : Launch} {y pc : Nat} {ls : ab_L} {st : List Value} {w : ab_W} {n bc bs : Nat} {Q : ab_Q} {x z : Int64} (hd : decode (ab_by y) pc = .ok (.lcmp, 1)) (h : ab_Ev X l y (pc + 1) ls (.int (lg_cmp x z) :: st) w n bc bs Q) : ab_Ev X l y pc ls (.long z :: .long x :: st) w n bc bs Q := by
  intro p e R s m args below meth c A ad0 Z hB hF H locs cells slots ad ws lsr str hh hl hs hc hsl
  have hx := hB.1
  have hb := hB.2.1
  match str, hs with
  | _ :: _ :: str, ⟨g1, g2, hs⟩ =>
    cases g1
    cases g2
    refine W.lcmp hx hb hd  ?_
    exact h p e R s m args below meth c A ad0 Z hB hF H locs cells slots ad ws lsr _ hh hl ⟨rfl, hs⟩ hc hsl
theorem ab_x_ineg {X : ab_X} {l : Launch} {y pc : Nat} {ls : ab_L} {st : List Value} {w : ab_W} {n bc bs : Nat} {Q : ab_Q} {x : Int32} (hd : decode (ab_by y) pc = .ok (.ineg, 1)) (h : ab_Ev X l y (pc + 1) ls (.int (-x) :: st) w n bc bs Q) : ab_Ev X l y pc ls (.int x :: st) w n bc bs Q := by
  intro p e R s m args below meth c A ad0 Z hB hF H locs cells slots ad ws lsr str hh hl hs hc hsl
  have hx := hB.1
  have hb := hB.2.1
  match str, hs with
  | _ :: str, ⟨g1, hs⟩ =>
    cases g1
    refine lv_ineg hx hb hd  ?_
    exact h p e R s m args below meth c A ad0 Z hB hF H locs cells slots ad ws lsr _ hh hl ⟨rfl, hs⟩ hc hsl
theorem ab_x_lneg {X : ab_X} {l : Launch} {y pc : Nat} {ls : ab_L} {st : List Value} {w : ab_W} {n bc bs : Nat} {Q : ab_Q} {x : Int64} (hd : decode (ab_by y) pc = .ok (.lneg, 1)) (h : ab_Ev X l y (pc + 1) ls (.long (-x) :: st) w n bc bs Q) : ab_Ev X l y pc ls (.long x :: st) w n bc bs Q := by
  intro p e R s m args below meth c A ad0 Z hB hF H locs cells slots ad ws lsr str hh hl hs hc hsl
  have hx := hB.1
  have hb := hB.2.1
  match str, hs with
  | _ :: str, ⟨g1, hs⟩ =>
    cases g1
    refine lv_lneg hx hb hd  ?_
    exact h p e R s m args below meth c A ad0 Z hB hF H locs cells slots ad ws lsr _ hh hl ⟨rfl, hs⟩ hc hsl
theorem ab_x_i2l {X : ab_X} {l : Launch} {y pc : Nat} {ls : ab_L} {st : List Value} {w : ab_W} {n bc bs : Nat} {Q : ab_Q} {x : Int32} (hd : decode (ab_by y) pc = .ok (.i2l, 1)) (h : ab_Ev X l y (pc + 1) ls (.long x.toInt64 :: st) w n bc bs Q) : ab_Ev X l y pc ls (.int x :: st) w n bc bs Q := by
  intro p e R s m args below meth c A ad0 Z hB hF H locs cells slots ad ws lsr str hh hl hs hc hsl
  have hx := hB.1
  have hb := hB.2.1
  match str, hs with
  | _ :: str, ⟨g1, hs⟩ =>
    cases g1
    refine lv_i2l hx hb hd rfl ?_
    exact h p e R s m args below meth c A ad0 Z hB hF H locs cells slots ad ws lsr _ hh hl ⟨rfl, hs⟩ hc hsl
theorem ab_x_l2i {X : ab_X} {l : Launch} {y pc : Nat} {ls : ab_L} {st : List Value} {w : ab_W} {n bc bs : Nat} {Q : ab_Q} {x : Int64} (hd : decode (ab_by y) pc = .ok (.l2i, 1)) (h : ab_Ev X l y (pc + 1) ls (.int x.toInt32 :: st) w n bc bs Q) : ab_Ev X l y pc ls (.long x :: st) w n bc bs Q := by
  intro p e R s m args below meth c A ad0 Z hB hF H locs cells slots ad ws lsr str hh hl hs hc hsl
  have hx := hB.1
  have hb := hB.2.1
  match str, hs with
  | _ :: str, ⟨g1, hs⟩ =>
    cases g1
    refine lv_l2i hx hb hd rfl ?_
    exact h p e R s m args below meth c A ad0 Z hB hF H locs cells slots ad ws lsr _ hh hl ⟨rfl, hs⟩ hc hsl
theorem ab_x_i2c {X : ab_X} {l : Launch} {y pc : Nat} {ls : ab_L} {st : List Value} {w : ab_W} {n bc bs : Nat} {Q : ab_Q} {x : Int32} (hd : decode (ab_by y) pc = .ok (.i2c, 1)) (h : ab_Ev X l y (pc + 1) ls (.int (x.toUInt32 % 65536).toInt32 :: st) w n bc bs Q) : ab_Ev X l y pc ls (.int x :: st) w n bc bs Q := by
  intro p e R s m args below meth c A ad0 Z hB hF H locs cells slots ad ws lsr str hh hl hs hc hsl
  have hx := hB.1
  have hb := hB.2.1
  match str, hs with
  | _ :: str, ⟨g1, hs⟩ =>
    cases g1
    refine lv_i2c hx hb hd rfl ?_
    exact h p e R s m args below meth c A ad0 Z hB hF H locs cells slots ad ws lsr _ hh hl ⟨rfl, hs⟩ hc hsl
theorem ab_x_dup_i {X : ab_X} {l : Launch} {y pc : Nat} {ls : ab_L} {st : List Value} {w : ab_W} {n bc bs : Nat} {Q : ab_Q} {x : Int32} (hd : decode (ab_by y) pc = .ok (.dup, 1)) (h : ab_Ev X l y (pc + 1) ls (.int x :: .int x :: st) w n bc bs Q) : ab_Ev X l y pc ls (.int x :: st) w n bc bs Q := by
  intro p e R s m args below meth c A ad0 Z hB hF H locs cells slots ad ws lsr str hh hl hs hc hsl
  have hx := hB.1
  have hb := hB.2.1
  match str, hs with
  | _ :: str, ⟨g1, hs⟩ =>
    cases g1
    refine lv_dup hx hb hd rfl ?_
    exact h p e R s m args below meth c A ad0 Z hB hF H locs cells slots ad ws lsr _ hh hl ⟨rfl, rfl, hs⟩ hc hsl
theorem ab_x_dup_r {X : ab_X} {l : Launch} {y pc : Nat} {ls : ab_L} {st : List Value} {w : ab_W} {n bc bs : Nat} {Q : ab_Q} {x : Nat} (hd : decode (ab_by y) pc = .ok (.dup, 1)) (h : ab_Ev X l y (pc + 1) ls (.ref x :: .ref x :: st) w n bc bs Q) : ab_Ev X l y pc ls (.ref x :: st) w n bc bs Q := by
  intro p e R s m args below meth c A ad0 Z hB hF H locs cells slots ad ws lsr str hh hl hs hc hsl
  have hx := hB.1
  have hb := hB.2.1
  match str, hs with
  | _ :: str, ⟨g1, hs⟩ =>
    obtain ⟨z, g3, rfl⟩ := g1
    refine lv_dup hx hb hd rfl ?_
    exact h p e R s m args below meth c A ad0 Z hB hF H locs cells slots ad ws lsr _ hh hl ⟨⟨z, g3, rfl⟩, ⟨z, g3, rfl⟩, hs⟩ hc hsl
theorem ab_x_dupx1 {X : ab_X} {l : Launch} {y pc : Nat} {ls : ab_L} {st : List Value} {w : ab_W} {n bc bs : Nat} {Q : ab_Q} {x : Int32} {q : Nat} (hd : decode (ab_by y) pc = .ok (.dup_x1, 1)) (h : ab_Ev X l y (pc + 1) ls (.int x :: .ref q :: .int x :: st) w n bc bs Q) : ab_Ev X l y pc ls (.int x :: .ref q :: st) w n bc bs Q := by
  intro p e R s m args below meth c A ad0 Z hB hF H locs cells slots ad ws lsr str hh hl hs hc hsl
  have hx := hB.1
  have hb := hB.2.1
  match str, hs with
  | _ :: _ :: str, ⟨g1, g2, hs⟩ =>
    cases g1
    obtain ⟨z, g3, rfl⟩ := g2
    refine lv_dup_x1 hx hb hd rfl rfl ?_
    exact h p e R s m args below meth c A ad0 Z hB hF H locs cells slots ad ws lsr _ hh hl ⟨rfl, ⟨z, g3, rfl⟩, rfl, hs⟩ hc hsl
theorem ab_x_dup2_l {X : ab_X} {l : Launch} {y pc : Nat} {ls : ab_L} {st : List Value} {w : ab_W} {n bc bs : Nat} {Q : ab_Q} {x : Int64} (hd : decode (ab_by y) pc = .ok (.dup2, 1)) (h : ab_Ev X l y (pc + 1) ls (.long x :: .long x :: st) w n bc bs Q) : ab_Ev X l y pc ls (.long x :: st) w n bc bs Q := by
  intro p e R s m args below meth c A ad0 Z hB hF H locs cells slots ad ws lsr str hh hl hs hc hsl
  have hx := hB.1
  have hb := hB.2.1
  match str, hs with
  | _ :: str, ⟨g1, hs⟩ =>
    cases g1
    refine lv_dup2_2 hx hb hd rfl ?_
    exact h p e R s m args below meth c A ad0 Z hB hF H locs cells slots ad ws lsr _ hh hl ⟨rfl, rfl, hs⟩ hc hsl
theorem ab_x_dup2_ir {X : ab_X} {l : Launch} {y pc : Nat} {ls : ab_L} {st : List Value} {w : ab_W} {n bc bs : Nat} {Q : ab_Q} {x : Int32} {q : Nat} (hd : decode (ab_by y) pc = .ok (.dup2, 1)) (h : ab_Ev X l y (pc + 1) ls (.int x :: .ref q :: .int x :: .ref q :: st) w n bc bs Q) : ab_Ev X l y pc ls (.int x :: .ref q :: st) w n bc bs Q := by
  intro p e R s m args below meth c A ad0 Z hB hF H locs cells slots ad ws lsr str hh hl hs hc hsl
  have hx := hB.1
  have hb := hB.2.1
  match str, hs with
  | _ :: _ :: str, ⟨g1, g2, hs⟩ =>
    cases g1
    obtain ⟨z, g3, rfl⟩ := g2
    refine lv_dup2_11 hx hb hd rfl rfl ?_
    exact h p e R s m args below meth c A ad0 Z hB hF H locs cells slots ad ws lsr _ hh hl ⟨rfl, ⟨z, g3, rfl⟩, rfl, ⟨z, g3, rfl⟩, hs⟩ hc hsl
theorem ab_x_pop {X : ab_X} {l : Launch} {y pc : Nat} {ls : ab_L} {st : List Value} {w : ab_W} {n bc bs : Nat} {Q : ab_Q} {x : Int32} (hd : decode (ab_by y) pc = .ok (.pop, 1)) (h : ab_Ev X l y (pc + 1) ls st w n bc bs Q) : ab_Ev X l y pc ls (.int x :: st) w n bc bs Q := by
  intro p e R s m args below meth c A ad0 Z hB hF H locs cells slots ad ws lsr str hh hl hs hc hsl
  have hx := hB.1
  have hb := hB.2.1
  match str, hs with
  | _ :: str, ⟨g1, hs⟩ =>
    cases g1
    refine lv_pop hx hb hd rfl ?_
    exact h p e R s m args below meth c A ad0 Z hB hF H locs cells slots ad ws lsr _ hh hl hs hc hsl
theorem ab_x_goto {X : ab_X} {l : Launch} {y pc : Nat} {ls : ab_L} {st : List Value} {w : ab_W} {n bc bs : Nat} {Q : ab_Q} {off : Int} {t : Nat} (hd : decode (ab_by y) pc = .ok (.goto off, 3)) (ht : (pc : Int) + off = (t : Int)) (h : ab_Ev X l y t ls st w n bc bs Q) : ab_Ev X l y pc ls st w n bc bs Q := by
  intro p e R s m args below meth c A ad0 Z hB hF H locs cells slots ad ws lsr str hh hl hs hc hsl
  have hx := hB.1
  have hb := hB.2.1
  refine lv_goto hx hb hd ht ?_
  exact h p e R s m args below meth c A ad0 Z hB hF H locs cells slots ad ws lsr _ hh hl hs hc hsl
theorem ab_x_if_eq {X : ab_X} {l : Launch} {y pc : Nat} {ls : ab_L} {st : List Value} {w : ab_W} {n bc bs : Nat} {Q : ab_Q} {x : Int32} {off : Int} {t : Nat} (hd : decode (ab_by y) pc = .ok (.ifCond .eq off, 3)) (ht : (pc : Int) + off = (t : Int)) (h : x = 0 → ab_Ev X l y t ls st w n bc bs Q) (h2 : ¬ x = 0 → ab_Ev X l y (pc + 3) ls st w n bc bs Q) : ab_Ev X l y pc ls (.int x :: st) w n bc bs Q := by
  intro p e R s m args below meth c A ad0 Z hB hF H locs cells slots ad ws lsr str hh hl hs hc hsl
  have hx := hB.1
  have hb := hB.2.1
  match str, hs with
  | _ :: str, ⟨g1, hs⟩ =>
    cases g1
    refine lv_if_eq hx hb hd ht (fun q9 => ?_) (fun q9 => ?_)
    · exact h q9 p e R s m args below meth c A ad0 Z hB hF H locs cells slots ad ws lsr _ hh hl hs hc hsl
    · exact h2 q9 p e R s m args below meth c A ad0 Z hB hF H locs cells slots ad ws lsr _ hh hl hs hc hsl
theorem ab_x_icmp_eq {X : ab_X} {l : Launch} {y pc : Nat} {ls : ab_L} {st : List Value} {w : ab_W} {n bc bs : Nat} {Q : ab_Q} {x z : Int32} {off : Int} {t : Nat} (hd : decode (ab_by y) pc = .ok (.if_icmp .eq off, 3)) (ht : (pc : Int) + off = (t : Int)) (h : x = z → ab_Ev X l y t ls st w n bc bs Q) (h2 : ¬ x = z → ab_Ev X l y (pc + 3) ls st w n bc bs Q) : ab_Ev X l y pc ls (.int z :: .int x :: st) w n bc bs Q := by
  intro p e R s m args below meth c A ad0 Z hB hF H locs cells slots ad ws lsr str hh hl hs hc hsl
  have hx := hB.1
  have hb := hB.2.1
  match str, hs with
  | _ :: _ :: str, ⟨g1, g2, hs⟩ =>
    cases g1
    cases g2
    refine lv_icmp_eq hx hb hd ht (fun q9 => ?_) (fun q9 => ?_)
    · exact h q9 p e R s m args below meth c A ad0 Z hB hF H locs cells slots ad ws lsr _ hh hl hs hc hsl
    · exact h2 q9 p e R s m args below meth c A ad0 Z hB hF H locs cells slots ad ws lsr _ hh hl hs hc hsl
theorem ab_x_if_ne {X : ab_X} {l : Launch} {y pc : Nat} {ls : ab_L} {st : List Value} {w : ab_W} {n bc bs : Nat} {Q : ab_Q} {x : Int32} {off : Int} {t : Nat} (hd : decode (ab_by y) pc = .ok (.ifCond .ne off, 3)) (ht : (pc : Int) + off = (t : Int)) (h : x ≠ 0 → ab_Ev X l y t ls st w n bc bs Q) (h2 : x = 0 → ab_Ev X l y (pc + 3) ls st w n bc bs Q) : ab_Ev X l y pc ls (.int x :: st) w n bc bs Q := by
  intro p e R s m args below meth c A ad0 Z hB hF H locs cells slots ad ws lsr str hh hl hs hc hsl
  have hx := hB.1
  have hb := hB.2.1
  match str, hs with
  | _ :: str, ⟨g1, hs⟩ =>
    cases g1
    refine lv_if_ne hx hb hd ht (fun q9 => ?_) (fun q9 => ?_)
    · exact h q9 p e R s m args below meth c A ad0 Z hB hF H locs cells slots ad ws lsr _ hh hl hs hc hsl
    · exact h2 q9 p e R s m args below meth c A ad0 Z hB hF H locs cells slots ad ws lsr _ hh hl hs hc hsl
theorem ab_x_icmp_ne {X : ab_X} {l : Launch} {y pc : Nat} {ls : ab_L} {st : List Value} {w : ab_W} {n bc bs : Nat} {Q : ab_Q} {x z : Int32} {off : Int} {t : Nat} (hd : decode (ab_by y) pc = .ok (.if_icmp .ne off, 3)) (ht : (pc : Int) + off = (t : Int)) (h : x ≠ z → ab_Ev X l y t ls st w n bc bs Q) (h2 : x = z → ab_Ev X l y (pc + 3) ls st w n bc bs Q) : ab_Ev X l y pc ls (.int z :: .int x :: st) w n bc bs Q := by
  intro p e R s m args below meth c A ad0 Z hB hF H locs cells slots ad ws lsr str hh hl hs hc hsl
  have hx := hB.1
  have hb := hB.2.1
  match str, hs with
  | _ :: _ :: str, ⟨g1, g2, hs⟩ =>
    cases g1
    cases g2
    refine lv_icmp_ne hx hb hd ht (fun q9 => ?_) (fun q9 => ?_)
    · exact h q9 p e R s m args below meth c A ad0 Z hB hF H locs cells slots ad ws lsr _ hh hl hs hc hsl
    · exact h2 q9 p e R s m args below meth c A ad0 Z hB hF H locs cells slots ad ws lsr _ hh hl hs hc hsl
theorem ab_x_if_lt {X : ab_X} {l : Launch} {y pc : Nat} {ls : ab_L} {st : List Value} {w : ab_W} {n bc bs : Nat} {Q : ab_Q} {x : Int32} {off : Int} {t : Nat} (hd : decode (ab_by y) pc = .ok (.ifCond .lt off, 3)) (ht : (pc : Int) + off = (t : Int)) (h : x < 0 → ab_Ev X l y t ls st w n bc bs Q) (h2 : ¬ x < 0 → ab_Ev X l y (pc + 3) ls st w n bc bs Q) : ab_Ev X l y pc ls (.int x :: st) w n bc bs Q := by
  intro p e R s m args below meth c A ad0 Z hB hF H locs cells slots ad ws lsr str hh hl hs hc hsl
  have hx := hB.1
  have hb := hB.2.1
  match str, hs with
  | _ :: str, ⟨g1, hs⟩ =>
    cases g1
    refine lv_if_lt hx hb hd ht (fun q9 => ?_) (fun q9 => ?_)
    · exact h q9 p e R s m args below meth c A ad0 Z hB hF H locs cells slots ad ws lsr _ hh hl hs hc hsl
    · exact h2 q9 p e R s m args below meth c A ad0 Z hB hF H locs cells slots ad ws lsr _ hh hl hs hc hsl
theorem ab_x_icmp_lt {X : ab_X} {l : Launch} {y pc : Nat} {ls : ab_L} {st : List Value} {w : ab_W} {n bc bs : Nat} {Q : ab_Q} {x z : Int32} {off : Int} {t : Nat} (hd : decode (ab_by y) pc = .ok (.if_icmp .lt off, 3)) (ht : (pc : Int) + off = (t : Int)) (h : x < z → ab_Ev X l y t ls st w n bc bs Q) (h2 : ¬ x < z → ab_Ev X l y (pc + 3) ls st w n bc bs Q) : ab_Ev X l y pc ls (.int z :: .int x :: st) w n bc bs Q := by
  intro p e R s m args below meth c A ad0 Z hB hF H locs cells slots ad ws lsr str hh hl hs hc hsl
  have hx := hB.1
  have hb := hB.2.1
  match str, hs with
  | _ :: _ :: str, ⟨g1, g2, hs⟩ =>
    cases g1
    cases g2
    refine lv_icmp_lt hx hb hd ht (fun q9 => ?_) (fun q9 => ?_)
    · exact h q9 p e R s m args below meth c A ad0 Z hB hF H locs cells slots ad ws lsr _ hh hl hs hc hsl
    · exact h2 q9 p e R s m args below meth c A ad0 Z hB hF H locs cells slots ad ws lsr _ hh hl hs hc hsl
theorem ab_x_if_ge {X : ab_X} {l : Launch} {y pc : Nat} {ls : ab_L} {st : List Value} {w : ab_W} {n bc bs : Nat} {Q : ab_Q} {x : Int32} {off : Int} {t : Nat} (hd : decode (ab_by y) pc = .ok (.ifCond .ge off, 3)) (ht : (pc : Int) + off = (t : Int)) (h : 0 ≤ x → ab_Ev X l y t ls st w n bc bs Q) (h2 : ¬ 0 ≤ x → ab_Ev X l y (pc + 3) ls st w n bc bs Q) : ab_Ev X l y pc ls (.int x :: st) w n bc bs Q := by
  intro p e R s m args below meth c A ad0 Z hB hF H locs cells slots ad ws lsr str hh hl hs hc hsl
  have hx := hB.1
  have hb := hB.2.1
  match str, hs with
  | _ :: str, ⟨g1, hs⟩ =>
    cases g1
    refine lv_if_ge hx hb hd ht (fun q9 => ?_) (fun q9 => ?_)
    · exact h q9 p e R s m args below meth c A ad0 Z hB hF H locs cells slots ad ws lsr _ hh hl hs hc hsl
    · exact h2 q9 p e R s m args below meth c A ad0 Z hB hF H locs cells slots ad ws lsr _ hh hl hs hc hsl
theorem ab_x_icmp_ge {X : ab_X} {l : Launch} {y pc : Nat} {ls : ab_L} {st : List Value} {w : ab_W} {n bc bs : Nat} {Q : ab_Q} {x z : Int32} {off : Int} {t : Nat} (hd : decode (ab_by y) pc = .ok (.if_icmp .ge off, 3)) (ht : (pc : Int) + off = (t : Int)) (h : z ≤ x → ab_Ev X l y t ls st w n bc bs Q) (h2 : ¬ z ≤ x → ab_Ev X l y (pc + 3) ls st w n bc bs Q) : ab_Ev X l y pc ls (.int z :: .int x :: st) w n bc bs Q := by
  intro p e R s m args below meth c A ad0 Z hB hF H locs cells slots ad ws lsr str hh hl hs hc hsl
  have hx := hB.1
  have hb := hB.2.1
  match str, hs with
  | _ :: _ :: str, ⟨g1, g2, hs⟩ =>
    cases g1
    cases g2
    refine lv_icmp_ge hx hb hd ht (fun q9 => ?_) (fun q9 => ?_)
    · exact h q9 p e R s m args below meth c A ad0 Z hB hF H locs cells slots ad ws lsr _ hh hl hs hc hsl
    · exact h2 q9 p e R s m args below meth c A ad0 Z hB hF H locs cells slots ad ws lsr _ hh hl hs hc hsl
theorem ab_x_if_gt {X : ab_X} {l : Launch} {y pc : Nat} {ls : ab_L} {st : List Value} {w : ab_W} {n bc bs : Nat} {Q : ab_Q} {x : Int32} {off : Int} {t : Nat} (hd : decode (ab_by y) pc = .ok (.ifCond .gt off, 3)) (ht : (pc : Int) + off = (t : Int)) (h : 0 < x → ab_Ev X l y t ls st w n bc bs Q) (h2 : ¬ 0 < x → ab_Ev X l y (pc + 3) ls st w n bc bs Q) : ab_Ev X l y pc ls (.int x :: st) w n bc bs Q := by
  intro p e R s m args below meth c A ad0 Z hB hF H locs cells slots ad ws lsr str hh hl hs hc hsl
  have hx := hB.1
  have hb := hB.2.1
  match str, hs with
  | _ :: str, ⟨g1, hs⟩ =>
    cases g1
    refine lv_if_gt hx hb hd ht (fun q9 => ?_) (fun q9 => ?_)
    · exact h q9 p e R s m args below meth c A ad0 Z hB hF H locs cells slots ad ws lsr _ hh hl hs hc hsl
    · exact h2 q9 p e R s m args below meth c A ad0 Z hB hF H locs cells slots ad ws lsr _ hh hl hs hc hsl
theorem ab_x_icmp_gt {X : ab_X} {l : Launch} {y pc : Nat} {ls : ab_L} {st : List Value} {w : ab_W} {n bc bs : Nat} {Q : ab_Q} {x z : Int32} {off : Int} {t : Nat} (hd : decode (ab_by y) pc = .ok (.if_icmp .gt off, 3)) (ht : (pc : Int) + off = (t : Int)) (h : z < x → ab_Ev X l y t ls st w n bc bs Q) (h2 : ¬ z < x → ab_Ev X l y (pc + 3) ls st w n bc bs Q) : ab_Ev X l y pc ls (.int z :: .int x :: st) w n bc bs Q := by
  intro p e R s m args below meth c A ad0 Z hB hF H locs cells slots ad ws lsr str hh hl hs hc hsl
  have hx := hB.1
  have hb := hB.2.1
  match str, hs with
  | _ :: _ :: str, ⟨g1, g2, hs⟩ =>
    cases g1
    cases g2
    refine lv_icmp_gt hx hb hd ht (fun q9 => ?_) (fun q9 => ?_)
    · exact h q9 p e R s m args below meth c A ad0 Z hB hF H locs cells slots ad ws lsr _ hh hl hs hc hsl
    · exact h2 q9 p e R s m args below meth c A ad0 Z hB hF H locs cells slots ad ws lsr _ hh hl hs hc hsl
theorem ab_x_if_le {X : ab_X} {l : Launch} {y pc : Nat} {ls : ab_L} {st : List Value} {w : ab_W} {n bc bs : Nat} {Q : ab_Q} {x : Int32} {off : Int} {t : Nat} (hd : decode (ab_by y) pc = .ok (.ifCond .le off, 3)) (ht : (pc : Int) + off = (t : Int)) (h : x ≤ 0 → ab_Ev X l y t ls st w n bc bs Q) (h2 : ¬ x ≤ 0 → ab_Ev X l y (pc + 3) ls st w n bc bs Q) : ab_Ev X l y pc ls (.int x :: st) w n bc bs Q := by
  intro p e R s m args below meth c A ad0 Z hB hF H locs cells slots ad ws lsr str hh hl hs hc hsl
  have hx := hB.1
  have hb := hB.2.1
  match str, hs with
  | _ :: str, ⟨g1, hs⟩ =>
    cases g1
    refine lv_if_le hx hb hd ht (fun q9 => ?_) (fun q9 => ?_)
    · exact h q9 p e R s m args below meth c A ad0 Z hB hF H locs cells slots ad ws lsr _ hh hl hs hc hsl
    · exact h2 q9 p e R s m args below meth c A ad0 Z hB hF H locs cells slots ad ws lsr _ hh hl hs hc hsl
theorem ab_x_icmp_le {X : ab_X} {l : Launch} {y pc : Nat} {ls : ab_L} {st : List Value} {w : ab_W} {n bc bs : Nat} {Q : ab_Q} {x z : Int32} {off : Int} {t : Nat} (hd : decode (ab_by y) pc = .ok (.if_icmp .le off, 3)) (ht : (pc : Int) + off = (t : Int)) (h : x ≤ z → ab_Ev X l y t ls st w n bc bs Q) (h2 : ¬ x ≤ z → ab_Ev X l y (pc + 3) ls st w n bc bs Q) : ab_Ev X l y pc ls (.int z :: .int x :: st) w n bc bs Q := by
  intro p e R s m args below meth c A ad0 Z hB hF H locs cells slots ad ws lsr str hh hl hs hc hsl
  have hx := hB.1
  have hb := hB.2.1
  match str, hs with
  | _ :: _ :: str, ⟨g1, g2, hs⟩ =>
    cases g1
    cases g2
    refine lv_icmp_le hx hb hd ht (fun q9 => ?_) (fun q9 => ?_)
    · exact h q9 p e R s m args below meth c A ad0 Z hB hF H locs cells slots ad ws lsr _ hh hl hs hc hsl
    · exact h2 q9 p e R s m args below meth c A ad0 Z hB hF H locs cells slots ad ws lsr _ hh hl hs hc hsl
theorem ab_x_ifnull_r {X : ab_X} {l : Launch} {y pc : Nat} {ls : ab_L} {st : List Value} {w : ab_W} {n bc bs : Nat} {Q : ab_Q} {q : Nat} {off : Int} {t : Nat} (hd : decode (ab_by y) pc = .ok (.ifnull off, 3)) (ht : (pc : Int) + off = (t : Int)) (h : ab_Ev X l y (pc + 3) ls st w n bc bs Q) : ab_Ev X l y pc ls (.ref q :: st) w n bc bs Q := by
  intro p e R s m args below meth c A ad0 Z hB hF H locs cells slots ad ws lsr str hh hl hs hc hsl
  have hx := hB.1
  have hb := hB.2.1
  match str, hs with
  | _ :: str, ⟨g1, hs⟩ =>
    obtain ⟨z, g3, rfl⟩ := g1
    refine lv_ifnull hx hb hd ?_
    exact h p e R s m args below meth c A ad0 Z hB hF H locs cells slots ad ws lsr _ hh hl hs hc hsl
theorem ab_x_ifnull_n {X : ab_X} {l : Launch} {y pc : Nat} {ls : ab_L} {st : List Value} {w : ab_W} {n bc bs : Nat} {Q : ab_Q}  {off : Int} {t : Nat} (hd : decode (ab_by y) pc = .ok (.ifnull off, 3)) (ht : (pc : Int) + off = (t : Int)) (h : ab_Ev X l y (t) ls st w n bc bs Q) : ab_Ev X l y pc ls (.null :: st) w n bc bs Q := by
  intro p e R s m args below meth c A ad0 Z hB hF H locs cells slots ad ws lsr str hh hl hs hc hsl
  have hx := hB.1
  have hb := hB.2.1
  match str, hs with
  | _ :: str, ⟨g1, hs⟩ =>
    cases g1
    refine lv_ifnullN hx hb hd ht ?_
    exact h p e R s m args below meth c A ad0 Z hB hF H locs cells slots ad ws lsr _ hh hl hs hc hsl
theorem ab_x_ifnonnull_r {X : ab_X} {l : Launch} {y pc : Nat} {ls : ab_L} {st : List Value} {w : ab_W} {n bc bs : Nat} {Q : ab_Q} {q : Nat} {off : Int} {t : Nat} (hd : decode (ab_by y) pc = .ok (.ifnonnull off, 3)) (ht : (pc : Int) + off = (t : Int)) (h : ab_Ev X l y (t) ls st w n bc bs Q) : ab_Ev X l y pc ls (.ref q :: st) w n bc bs Q := by
  intro p e R s m args below meth c A ad0 Z hB hF H locs cells slots ad ws lsr str hh hl hs hc hsl
  have hx := hB.1
  have hb := hB.2.1
  match str, hs with
  | _ :: str, ⟨g1, hs⟩ =>
    obtain ⟨z, g3, rfl⟩ := g1
    refine lv_ifnonnull hx hb hd ht ?_
    exact h p e R s m args below meth c A ad0 Z hB hF H locs cells slots ad ws lsr _ hh hl hs hc hsl
theorem ab_x_ifnonnull_n {X : ab_X} {l : Launch} {y pc : Nat} {ls : ab_L} {st : List Value} {w : ab_W} {n bc bs : Nat} {Q : ab_Q}  {off : Int} {t : Nat} (hd : decode (ab_by y) pc = .ok (.ifnonnull off, 3)) (ht : (pc : Int) + off = (t : Int)) (h : ab_Ev X l y (pc + 3) ls st w n bc bs Q) : ab_Ev X l y pc ls (.null :: st) w n bc bs Q := by
  intro p e R s m args below meth c A ad0 Z hB hF H locs cells slots ad ws lsr str hh hl hs hc hsl
  have hx := hB.1
  have hb := hB.2.1
  match str, hs with
  | _ :: str, ⟨g1, hs⟩ =>
    cases g1
    refine lv_ifnonnullN hx hb hd ?_
    exact h p e R s m args below meth c A ad0 Z hB hF H locs cells slots ad ws lsr _ hh hl hs hc hsl
theorem ab_c3 {ci : Nat} (h : ci < 13) : vwCl[ci]? = some (ab_C3 ci) := by
  unfold ab_C3
  rw [List.getD_eq_getElem?_getD]
  have : ci < vwCl.length := h
  rw [List.getElem?_eq_getElem this]
  rfl
theorem ab_c3' {ci : Nat} (h : ci < 13) : vwCl[ci]? = some ((ab_C3 ci).1, ab_T ci, (ab_C3 ci).2.2) := ab_c3 h
theorem ab_goodU (C : String) (T : u_T) (N : Nat) : ∀ w ∈ u_ws C T N, goodWord w = true := by
  intro w hw
  obtain ⟨k, -, rfl⟩ := List.mem_map.mp hw
  unfold u_lay
  split <;> rfl
theorem ab_inX {ci : Nat} (h : ci < 13) : ∀ w ∈ u_ws (ab_C3 ci).1 (ab_T ci) (ab_C3 ci).2.2, w ∈ ab_tb := by
  refine fun w hw => ab_tbm ?_ (ab_goodU _ _ _ w hw)
  revert w
  rcases (show ci = 0 ∨ ci = 1 ∨ ci = 2 ∨ ci = 3 ∨ ci = 4 ∨ ci = 5 ∨ ci = 6 ∨ ci = 7 ∨ ci = 8 ∨ ci = 9 ∨ ci = 10 ∨ ci = 11 ∨ ci = 12 by omega) with rfl | rfl | rfl | rfl | rfl | rfl | rfl | rfl | rfl | rfl | rfl | rfl | rfl
  · exact inX0
  · exact inX1
  · exact inX2
  · exact inX3
  · exact inX4
  · exact inX5
  · exact inX6
  · exact inX7
  · exact inX8
  · exact inX9
  · exact inX10
  · exact inX11
  · exact inX12
theorem ab_nmX {ci : Nat} (h : ci < 13) : ∀ a, a < (ab_C3 ci).2.2 → ∀ b, b < (ab_C3 ci).2.2 → a ≠ b → (ab_T ci a).2.1 ≠ (ab_T ci b).2.1 := by
  rcases (show ci = 0 ∨ ci = 1 ∨ ci = 2 ∨ ci = 3 ∨ ci = 4 ∨ ci = 5 ∨ ci = 6 ∨ ci = 7 ∨ ci = 8 ∨ ci = 9 ∨ ci = 10 ∨ ci = 11 ∨ ci = 12 by omega) with rfl | rfl | rfl | rfl | rfl | rfl | rfl | rfl | rfl | rfl | rfl | rfl | rfl
  · exact nmX0
  · exact nmX1
  · exact nmX2
  · exact nmX3
  · exact nmX4
  · exact nmX5
  · exact nmX6
  · exact nmX7
  · exact nmX8
  · exact nmX9
  · exact nmX10
  · exact nmX11
  · exact nmX12
theorem ab_tyX {ci : Nat} (h : ci < 13) : ∀ k, k < (ab_C3 ci).2.2 → parseFieldDescriptor (ab_T ci k).2.2.1 = some (ab_ty ci k) := by
  rcases (show ci = 0 ∨ ci = 1 ∨ ci = 2 ∨ ci = 3 ∨ ci = 4 ∨ ci = 5 ∨ ci = 6 ∨ ci = 7 ∨ ci = 8 ∨ ci = 9 ∨ ci = 10 ∨ ci = 11 ∨ ci = 12 by omega) with rfl | rfl | rfl | rfl | rfl | rfl | rfl | rfl | rfl | rfl | rfl | rfl | rfl
  · exact tyX0_ok
  · exact tyX1_ok
  · exact tyX2_ok
  · exact tyX3_ok
  · exact tyX4_ok
  · exact tyX5_ok
  · exact tyX6_ok
  · exact tyX7_ok
  · exact tyX8_ok
  · exact tyX9_ok
  · exact tyX10_ok
  · exact tyX11_ok
  · exact tyX12_ok
/-- the word of a field's link: plain, or by the nest -/
def ab_flw (own i ci b : Nat) : Cond := .fieldLink (ab_cn own) i (ab_T ci b).1 (ab_T ci b).2.1 (ab_T ci b).2.2.1
def ab_flN (own i ci b : Nat) : Cond := .fieldLinkNest (ab_cn own) i (ab_T ci b).1 (ab_T ci b).2.1 (ab_T ci b).2.2.1 "WheelPens"
theorem ab_x_get {X : ab_X} {l : Launch} {y pc : Nat} {ls : ab_L} {st : List Value} {w : ab_W} {n bc bs : Nat} {Q : ab_Q} {i ci b q : Nat} {fs : List Value} {v : Value} (hd : decode (ab_by y) pc = .ok (.getfield i, 3)) (hci : ci < 13) (hbn : b < (ab_C3 ci).2.2) (hlk : ab_flw (ab_oc y) i ci b ∈ lw_tbl ∨ ab_flN (ab_oc y) i ci b ∈ lw_tbl) (hw : w q = .inr (ci, fs)) (hv : fs[b]? = some v) (h : ab_Ev X l y (pc + 3) ls (v :: st) w n bc bs Q) : ab_Ev X l y pc ls (.ref q :: st) w n bc bs Q := by
  intro p e R s m args below meth c A ad0 Z hB hF H locs cells slots ad ws lsr str hh hl hs hc hsl
  have hx := hB.1
  have hb := hB.2.1
  match str, hs with
  | _ :: str, ⟨g1, hs⟩ =>
    obtain ⟨z, g3, rfl⟩ := g1
    have hh0 := hh
    obtain ⟨hp0, hn0, hw0, hP, hD, hS⟩ := hh
    obtain ⟨e', w1, w2⟩ := hw0.2 q z g3
    rw [hw] at w2
    obtain ⟨fs', rfl, w3⟩ := w2
    obtain ⟨v', k1, k2⟩ := w3.get hv
    rcases hlk with hlk | hlk
    · refine va_get (D := X.1) (cl := vwCl) (tys := ab_tys X.2.1) hx hb hB.2.2.2.2.2.1 (ab_inX hci) hB.2.2.2.2.1 hB.2.2.2.2.2.2.2.2.1 hP q w1 (ab_c3' hci) b hbn (hB.2.2.2.2.2.1 _ (ab_tbm hlk rfl)) (fun _ h9 => h9) k1 hd ?_
      exact h p e R s m args below meth c A ad0 Z hB hF H locs cells slots ad ws lsr _ hh0 hl ⟨k2, hs⟩ hc hsl
    · refine va_getN (D := X.1) (cl := vwCl) (tys := ab_tys X.2.1) hx hb hB.2.2.2.2.2.1 (ab_inX hci) hB.2.2.2.2.1 hB.2.2.2.2.2.2.2.2.1 hP q w1 (ab_c3' hci) b hbn ((hB.2.2.2.2.2.2.2.2.2.2.2.2.2.1.1 _ hlk rfl).use rfl) (fun _ h9 => h9) k1 hd ?_
      exact h p e R s m args below meth c A ad0 Z hB hF H locs cells slots ad ws lsr _ hh0 hl ⟨k2, hs⟩ hc hsl
theorem ab_x_put {X : ab_X} {l : Launch} {y pc : Nat} {ls : ab_L} {st : List Value} {w : ab_W} {n bc bs : Nat} {Q : ab_Q} {i ci b q : Nat} {fs : List Value} {v : Value} (hd : decode (ab_by y) pc = .ok (.putfield i, 3)) (hci : ci < 13) (hbn : b < (ab_C3 ci).2.2) (hlk : (ab_flw (ab_oc y) i ci b ∈ lw_tbl ∧ ((ab_T ci b).2.2.2 = false ∨ ((ab_mn y).name = "<init>" ∧ (ab_T ci b).1 = ab_cn (ab_oc y)))) ∨ (ab_flN (ab_oc y) i ci b ∈ lw_tbl ∧ (ab_T ci b).2.2.2 = false)) (hw : w q = .inr (ci, fs)) (hb9 : b < fs.length) (hft : ∀ v', ab_rv X [] v v' ∨ (∃ ad, ab_rv X ad v v') → narrow (ab_ty ci b) v' = v' ∧ fits (ab_ty ci b) v' = true) (h : ab_Ev X l y (pc + 3) ls st (va_up w q (.inr (ci, fs.set b v))) n bc bs Q) : ab_Ev X l y pc ls (v :: .ref q :: st) w n bc bs Q := by
  intro p e R s m args below meth c A ad0 Z hB hF H locs cells slots ad ws lsr str hh hl hs hc hsl
  have hx := hB.1
  have hb := hB.2.1
  match str, hs with
  | v' :: _ :: str, ⟨g0, g1, hs⟩ =>
    obtain ⟨z, g3, rfl⟩ := g1
    have hh0 := hh
    obtain ⟨hp0, hn0, hw0, hP, hD, hS⟩ := hh
    obtain ⟨e', w1, w2⟩ := hw0.2 q z g3
    rw [hw] at w2
    obtain ⟨fs', rfl, w3⟩ := w2
    obtain ⟨f1, f2⟩ := hft v' (Or.inr ⟨ad, g0⟩)
    have hw9 : ab_rw X ad (va_up w q (.inr (ci, fs.set b v))) (ws.set q (z, .inr (ci, fs'.set b v'))) := hw0.put g3 ⟨_, rfl, w3.put g0 b⟩
    have hl9 : b < fs'.length := by rw [← w3.len]; exact hb9
    rcases hlk with ⟨hlk, hfin | ⟨hin, hdc⟩⟩ | ⟨hlk, hfin⟩
    · refine va_put (D := X.1) (cl := vwCl) (tys := ab_tys X.2.1) hx hb hB.2.2.2.2.2.1 (ab_inX hci) (ab_ty ci) (ab_tyX hci) (ab_nmX hci) hB.2.2.2.2.1 hB.2.2.2.2.2.2.2.2.1 hP hD hS q w1 (ab_c3' hci) b hbn (hB.2.2.2.2.2.1 _ (ab_tbm hlk rfl)) (fun _ h9 => h9) hfin (ab_tyX hci b hbn) f1 f2 hl9 hd (fun H1 locs1 hP1 hD1 hS1 => ?_)
      exact h p e R s m args below meth c A ad0 Z hB hF H1 locs1 cells slots ad _ lsr _ ⟨hp0, hn0, hw9, hP1, hD1, hS1⟩ hl hs hc hsl
    · by_cases hfin : (ab_T ci b).2.2.2 = true
      · refine va_putF (D := X.1) (cl := vwCl) (tys := ab_tys X.2.1) hx hb hB.2.2.2.2.2.1 (ab_inX hci) (ab_ty ci) (ab_tyX hci) (ab_nmX hci) hB.2.2.2.2.1 hB.2.2.2.2.2.2.2.2.1 hP hD hS q w1 (ab_c3' hci) b hbn (hB.2.2.2.2.2.1 _ (ab_tbm hlk rfl)) (fun _ h9 => h9) hfin (by rw [hB.2.2.2.2.2.2.2.1]; exact hin) hdc (ab_tyX hci b hbn) f1 f2 hl9 hd (fun H1 locs1 hP1 hD1 hS1 => ?_)
        exact h p e R s m args below meth c A ad0 Z hB hF H1 locs1 cells slots ad _ lsr _ ⟨hp0, hn0, hw9, hP1, hD1, hS1⟩ hl hs hc hsl
      · refine va_put (D := X.1) (cl := vwCl) (tys := ab_tys X.2.1) hx hb hB.2.2.2.2.2.1 (ab_inX hci) (ab_ty ci) (ab_tyX hci) (ab_nmX hci) hB.2.2.2.2.1 hB.2.2.2.2.2.2.2.2.1 hP hD hS q w1 (ab_c3' hci) b hbn (hB.2.2.2.2.2.1 _ (ab_tbm hlk rfl)) (fun _ h9 => h9) (by simpa using hfin) (ab_tyX hci b hbn) f1 f2 hl9 hd (fun H1 locs1 hP1 hD1 hS1 => ?_)
        exact h p e R s m args below meth c A ad0 Z hB hF H1 locs1 cells slots ad _ lsr _ ⟨hp0, hn0, hw9, hP1, hD1, hS1⟩ hl hs hc hsl
    · refine va_putN (D := X.1) (cl := vwCl) (tys := ab_tys X.2.1) hx hb hB.2.2.2.2.2.1 (ab_inX hci) (ab_ty ci) (ab_tyX hci) (ab_nmX hci) hB.2.2.2.2.1 hB.2.2.2.2.2.2.2.2.1 hP hD hS q w1 (ab_c3' hci) b hbn ((hB.2.2.2.2.2.2.2.2.2.2.2.2.2.1.1 _ hlk rfl).use rfl) (fun _ h9 => h9) hfin (ab_tyX hci b hbn) f1 f2 hl9 hd (fun H1 locs1 hP1 hD1 hS1 => ?_)
      exact h p e R s m args below meth c A ad0 Z hB hF H1 locs1 cells slots ad _ lsr _ ⟨hp0, hn0, hw9, hP1, hD1, hS1⟩ hl hs hc hsl
theorem ab_x_iaload {X : ab_X} {l : Launch} {y pc : Nat} {ls : ab_L} {st : List Value} {w : ab_W} {n bc bs : Nat} {Q : ab_Q} {i : Int32} {q len : Nat} {f : Nat → Int32} (hd : decode (ab_by y) pc = .ok (.iaload, 1)) (hw : w q = .inl (0, len, .inl f)) (hin : vp_in i len) (h : ab_Ev X l y (pc + 1) ls (.int (f i.toNatClampNeg) :: st) w n bc bs Q) : ab_Ev X l y pc ls (.int i :: .ref q :: st) w n bc bs Q := by
  intro p e R s m args below meth c A ad0 Z hB hF H locs cells slots ad ws lsr str hh hl hs hc hsl
  have hx := hB.1
  have hb := hB.2.1
  match str, hs with
  | _ :: _ :: str, ⟨g0, g1, hs⟩ =>
    cases g0
    obtain ⟨z, g3, rfl⟩ := g1
    have hh0 := hh
    obtain ⟨hp0, hn0, hw0, hP, hD, hS⟩ := hh
    obtain ⟨e', w1, w2⟩ := hw0.2 q z g3
    rw [hw] at w2
    cases w2
    refine va_iald (D := X.1) (cl := vwCl) (tys := ab_tys X.2.1) hx hb hB.2.2.2.2.2.2.2.2.1 hP q 0 w1 rfl hin hd ?_
    exact h p e R s m args below meth c A ad0 Z hB hF H locs cells slots ad ws lsr _ hh0 hl ⟨rfl, hs⟩ hc hsl
theorem ab_x_laload {X : ab_X} {l : Launch} {y pc : Nat} {ls : ab_L} {st : List Value} {w : ab_W} {n bc bs : Nat} {Q : ab_Q} {i : Int32} {q len : Nat} {f : Nat → Int64} (hd : decode (ab_by y) pc = .ok (.laload, 1)) (hw : w q = .inl (1, len, .inr (.inl f))) (hin : vp_in i len) (h : ab_Ev X l y (pc + 1) ls (.long (f i.toNatClampNeg) :: st) w n bc bs Q) : ab_Ev X l y pc ls (.int i :: .ref q :: st) w n bc bs Q := by
  intro p e R s m args below meth c A ad0 Z hB hF H locs cells slots ad ws lsr str hh hl hs hc hsl
  have hx := hB.1
  have hb := hB.2.1
  match str, hs with
  | _ :: _ :: str, ⟨g0, g1, hs⟩ =>
    cases g0
    obtain ⟨z, g3, rfl⟩ := g1
    have hh0 := hh
    obtain ⟨hp0, hn0, hw0, hP, hD, hS⟩ := hh
    obtain ⟨e', w1, w2⟩ := hw0.2 q z g3
    rw [hw] at w2
    cases w2
    refine va_lald (D := X.1) (cl := vwCl) (tys := ab_tys X.2.1) hx hb hB.2.2.2.2.2.2.2.2.1 hP q 1 w1 rfl hin hd ?_
    exact h p e R s m args below meth c A ad0 Z hB hF H locs cells slots ad ws lsr _ hh0 hl ⟨rfl, hs⟩ hc hsl
theorem ab_x_baload {X : ab_X} {l : Launch} {y pc : Nat} {ls : ab_L} {st : List Value} {w : ab_W} {n bc bs : Nat} {Q : ab_Q} {i : Int32} {q len : Nat} {f : Nat → Int32} (hd : decode (ab_by y) pc = .ok (.baload, 1)) (hw : w q = .inl (2, len, .inl f)) (hin : vp_in i len) (h : ab_Ev X l y (pc + 1) ls (.int (f i.toNatClampNeg) :: st) w n bc bs Q) : ab_Ev X l y pc ls (.int i :: .ref q :: st) w n bc bs Q := by
  intro p e R s m args below meth c A ad0 Z hB hF H locs cells slots ad ws lsr str hh hl hs hc hsl
  have hx := hB.1
  have hb := hB.2.1
  match str, hs with
  | _ :: _ :: str, ⟨g0, g1, hs⟩ =>
    cases g0
    obtain ⟨z, g3, rfl⟩ := g1
    have hh0 := hh
    obtain ⟨hp0, hn0, hw0, hP, hD, hS⟩ := hh
    obtain ⟨e', w1, w2⟩ := hw0.2 q z g3
    rw [hw] at w2
    cases w2
    refine va_zald (D := X.1) (cl := vwCl) (tys := ab_tys X.2.1) hx hb hB.2.2.2.2.2.2.2.2.1 hP q 2 w1 rfl hin hd ?_
    exact h p e R s m args below meth c A ad0 Z hB hF H locs cells slots ad ws lsr _ hh0 hl ⟨rfl, hs⟩ hc hsl
theorem ab_x_iastore {X : ab_X} {l : Launch} {y pc : Nat} {ls : ab_L} {st : List Value} {w : ab_W} {n bc bs : Nat} {Q : ab_Q} {i : Int32} {x : Int32} {q len : Nat} {f : Nat → Int32} (hd : decode (ab_by y) pc = .ok (.iastore, 1)) (hw : w q = .inl (0, len, .inl f)) (hin : vp_in i len) (h : ab_Ev X l y (pc + 1) ls st (va_up w q (.inl (0, len, .inl (upd f i.toNatClampNeg x)))) n bc bs Q) : ab_Ev X l y pc ls (.int x :: .int i :: .ref q :: st) w n bc bs Q := by
  intro p e R s m args below meth c A ad0 Z hB hF H locs cells slots ad ws lsr str hh hl hs hc hsl
  have hx := hB.1
  have hb := hB.2.1
  match str, hs with
  | _ :: _ :: _ :: str, ⟨g8, g0, g1, hs⟩ =>
    cases g8
    cases g0
    obtain ⟨z, g3, rfl⟩ := g1
    have hh0 := hh
    obtain ⟨hp0, hn0, hw0, hP, hD, hS⟩ := hh
    obtain ⟨e', w1, w2⟩ := hw0.2 q z g3
    rw [hw] at w2
    cases w2
    refine va_iast (D := X.1) (cl := vwCl) (tys := ab_tys X.2.1) hx hb hB.2.2.2.2.2.2.2.2.1 hP hD hS q 0 w1 rfl hin hd (fun H1 locs1 hP1 hD1 hS1 => ?_)
    exact h p e R s m args below meth c A ad0 Z hB hF H1 locs1 cells slots ad _ lsr _ ⟨hp0, hn0, hw0.put g3 rfl, hP1, hD1, hS1⟩ hl hs hc hsl
theorem ab_x_lastore {X : ab_X} {l : Launch} {y pc : Nat} {ls : ab_L} {st : List Value} {w : ab_W} {n bc bs : Nat} {Q : ab_Q} {i : Int32} {x : Int64} {q len : Nat} {f : Nat → Int64} (hd : decode (ab_by y) pc = .ok (.lastore, 1)) (hw : w q = .inl (1, len, .inr (.inl f))) (hin : vp_in i len) (h : ab_Ev X l y (pc + 1) ls st (va_up w q (.inl (1, len, .inr (.inl (vp_updL f i.toNatClampNeg x))))) n bc bs Q) : ab_Ev X l y pc ls (.long x :: .int i :: .ref q :: st) w n bc bs Q := by
  intro p e R s m args below meth c A ad0 Z hB hF H locs cells slots ad ws lsr str hh hl hs hc hsl
  have hx := hB.1
  have hb := hB.2.1
  match str, hs with
  | _ :: _ :: _ :: str, ⟨g8, g0, g1, hs⟩ =>
    cases g8
    cases g0
    obtain ⟨z, g3, rfl⟩ := g1
    have hh0 := hh
    obtain ⟨hp0, hn0, hw0, hP, hD, hS⟩ := hh
    obtain ⟨e', w1, w2⟩ := hw0.2 q z g3
    rw [hw] at w2
    cases w2
    refine va_last (D := X.1) (cl := vwCl) (tys := ab_tys X.2.1) hx hb hB.2.2.2.2.2.2.2.2.1 hP hD hS q 1 w1 rfl hin hd (fun H1 locs1 hP1 hD1 hS1 => ?_)
    exact h p e R s m args below meth c A ad0 Z hB hF H1 locs1 cells slots ad _ lsr _ ⟨hp0, hn0, hw0.put g3 rfl, hP1, hD1, hS1⟩ hl hs hc hsl
theorem ab_x_bastore {X : ab_X} {l : Launch} {y pc : Nat} {ls : ab_L} {st : List Value} {w : ab_W} {n bc bs : Nat} {Q : ab_Q} {i : Int32} {x : Int32} {q len : Nat} {f : Nat → Int32} (hd : decode (ab_by y) pc = .ok (.bastore, 1)) (hw : w q = .inl (2, len, .inl f)) (hin : vp_in i len) (h : ab_Ev X l y (pc + 1) ls st (va_up w q (.inl (2, len, .inl (upd f i.toNatClampNeg (vp_nar .boolean x))))) n bc bs Q) : ab_Ev X l y pc ls (.int x :: .int i :: .ref q :: st) w n bc bs Q := by
  intro p e R s m args below meth c A ad0 Z hB hF H locs cells slots ad ws lsr str hh hl hs hc hsl
  have hx := hB.1
  have hb := hB.2.1
  match str, hs with
  | _ :: _ :: _ :: str, ⟨g8, g0, g1, hs⟩ =>
    cases g8
    cases g0
    obtain ⟨z, g3, rfl⟩ := g1
    have hh0 := hh
    obtain ⟨hp0, hn0, hw0, hP, hD, hS⟩ := hh
    obtain ⟨e', w1, w2⟩ := hw0.2 q z g3
    rw [hw] at w2
    cases w2
    refine va_zast (D := X.1) (cl := vwCl) (tys := ab_tys X.2.1) hx hb hB.2.2.2.2.2.2.2.2.1 hP hD hS q 2 w1 rfl hin hd (fun H1 locs1 hP1 hD1 hS1 => ?_)
    exact h p e R s m args below meth c A ad0 Z hB hF H1 locs1 cells slots ad _ lsr _ ⟨hp0, hn0, hw0.put g3 rfl, hP1, hD1, hS1⟩ hl hs hc hsl
theorem ab_x_aaload {X : ab_X} {l : Launch} {y pc : Nat} {ls : ab_L} {st : List Value} {w : ab_W} {n bc bs : Nat} {Q : ab_Q} {i : Int32} {q len : Nat} {f : Nat → Option Nat} (hd : decode (ab_by y) pc = .ok (.aaload, 1)) (hw : w q = .inl (3, len, .inr (.inr (.inr (.inr f))))) (hin : vp_in i len) (h : ab_Ev X l y (pc + 1) ls (va_rf (f i.toNatClampNeg) :: st) w n bc bs Q) : ab_Ev X l y pc ls (.int i :: .ref q :: st) w n bc bs Q := by
  intro p e R s m args below meth c A ad0 Z hB hF H locs cells slots ad ws lsr str hh hl hs hc hsl
  have hx := hB.1
  have hb := hB.2.1
  match str, hs with
  | _ :: _ :: str, ⟨g0, g1, hs⟩ =>
    cases g0
    obtain ⟨z, g3, rfl⟩ := g1
    have hh0 := hh
    obtain ⟨hp0, hn0, hw0, hP, hD, hS⟩ := hh
    obtain ⟨e', w1, w2⟩ := hw0.2 q z g3
    rw [hw] at w2
    obtain ⟨f', rfl, w3⟩ := w2
    refine va_aldq (D := X.1) (cl := vwCl) (tys := ab_tys X.2.1) hx hb hB.2.2.2.2.2.2.2.2.1 hP q 3 w1 rfl hin hd ?_
    exact h p e R s m args below meth c A ad0 Z hB hF H locs cells slots ad ws lsr _ hh0 hl ⟨w3 _, hs⟩ hc hsl
theorem ab_x_aastore {X : ab_X} {l : Launch} {y pc : Nat} {ls : ab_L} {st : List Value} {w : ab_W} {n bc bs : Nat} {Q : ab_Q} {i : Int32} {q v len : Nat} {vs : List Value} {f : Nat → Option Nat} (hd : decode (ab_by y) pc = .ok (.aastore, 1)) (hw : w q = .inl (3, len, .inr (.inr (.inr (.inr f))))) (hwv : w v = .inr (6, vs)) (hin : vp_in i len) (h : ab_Ev X l y (pc + 1) ls st (va_up w q (.inl (3, len, .inr (.inr (.inr (.inr (va_up f i.toNatClampNeg (some v)))))))) n bc bs Q) : ab_Ev X l y pc ls (.ref v :: .int i :: .ref q :: st) w n bc bs Q := by
  intro p e R s m args below meth c A ad0 Z hB hF H locs cells slots ad ws lsr str hh hl hs hc hsl
  have hx := hB.1
  have hb := hB.2.1
  match str, hs with
  | _ :: _ :: _ :: str, ⟨g8, g0, g1, hs⟩ =>
    cases g0
    obtain ⟨z, g3, rfl⟩ := g1
    obtain ⟨z8, g4, rfl⟩ := g8
    have hh0 := hh
    obtain ⟨hp0, hn0, hw0, hP, hD, hS⟩ := hh
    obtain ⟨e', w1, w2⟩ := hw0.2 q z g3
    rw [hw] at w2
    obtain ⟨f', rfl, w3⟩ := w2
    obtain ⟨e8, v1, v2⟩ := hw0.2 v z8 g4
    rw [hwv] at v2
    obtain ⟨vs', rfl, v3⟩ := v2
    refine va_astq (D := X.1) (cl := vwCl) (tys := ab_tys X.2.1) (r := (RX6, TX6, 3)) hx hb hB.2.2.2.2.2.2.2.2.1 hP hD hS q 3 v 6 w1 rfl v1 rfl hin hd (fun H1 locs1 hP1 hD1 hS1 => ?_)
    refine h p e R s m args below meth c A ad0 Z hB hF H1 locs1 cells slots ad _ lsr _ ⟨hp0, hn0, hw0.put g3 ⟨_, rfl, fun j => ?_⟩, hP1, hD1, hS1⟩ hl hs hc hsl
    by_cases e9 : j = i.toNatClampNeg
    · simp only [va_up, e9, if_true]
      exact ⟨z8, g4, rfl⟩
    · simp only [va_up, if_neg e9]
      exact w3 j
theorem ab_x_alen0 {X : ab_X} {l : Launch} {y pc : Nat} {ls : ab_L} {st : List Value} {w : ab_W} {n bc bs : Nat} {Q : ab_Q} {q len : Nat} {f : Nat → Int32} (hd : decode (ab_by y) pc = .ok (.arraylength, 1)) (hw : w q = .inl (0, len, .inl f)) (h : ab_Ev X l y (pc + 1) ls (.int (nI len) :: st) w n bc bs Q) : ab_Ev X l y pc ls (.ref q :: st) w n bc bs Q := by
  intro p e R s m args below meth c A ad0 Z hB hF H locs cells slots ad ws lsr str hh hl hs hc hsl
  have hx := hB.1
  have hb := hB.2.1
  match str, hs with
  | _ :: str, ⟨g1, hs⟩ =>
    obtain ⟨z, g3, rfl⟩ := g1
    have hh0 := hh
    obtain ⟨hp0, hn0, hw0, hP, hD, hS⟩ := hh
    obtain ⟨e', w1, w2⟩ := hw0.2 q z g3
    rw [hw] at w2
    cases w2
    refine va_alen (D := X.1) (cl := vwCl) (tys := ab_tys X.2.1) hx hb hB.2.2.2.2.2.2.2.2.1 hP q 0 w1 rfl rfl hd ?_
    exact h p e R s m args below meth c A ad0 Z hB hF H locs cells slots ad ws lsr _ hh0 hl ⟨rfl, hs⟩ hc hsl
theorem ab_x_alen1 {X : ab_X} {l : Launch} {y pc : Nat} {ls : ab_L} {st : List Value} {w : ab_W} {n bc bs : Nat} {Q : ab_Q} {q len : Nat} {f : Nat → Int64} (hd : decode (ab_by y) pc = .ok (.arraylength, 1)) (hw : w q = .inl (1, len, .inr (.inl f))) (h : ab_Ev X l y (pc + 1) ls (.int (nI len) :: st) w n bc bs Q) : ab_Ev X l y pc ls (.ref q :: st) w n bc bs Q := by
  intro p e R s m args below meth c A ad0 Z hB hF H locs cells slots ad ws lsr str hh hl hs hc hsl
  have hx := hB.1
  have hb := hB.2.1
  match str, hs with
  | _ :: str, ⟨g1, hs⟩ =>
    obtain ⟨z, g3, rfl⟩ := g1
    have hh0 := hh
    obtain ⟨hp0, hn0, hw0, hP, hD, hS⟩ := hh
    obtain ⟨e', w1, w2⟩ := hw0.2 q z g3
    rw [hw] at w2
    cases w2
    refine va_alen (D := X.1) (cl := vwCl) (tys := ab_tys X.2.1) hx hb hB.2.2.2.2.2.2.2.2.1 hP q 1 w1 rfl rfl hd ?_
    exact h p e R s m args below meth c A ad0 Z hB hF H locs cells slots ad ws lsr _ hh0 hl ⟨rfl, hs⟩ hc hsl
theorem ab_x_alen2 {X : ab_X} {l : Launch} {y pc : Nat} {ls : ab_L} {st : List Value} {w : ab_W} {n bc bs : Nat} {Q : ab_Q} {q len : Nat} {f : Nat → Int32} (hd : decode (ab_by y) pc = .ok (.arraylength, 1)) (hw : w q = .inl (2, len, .inl f)) (h : ab_Ev X l y (pc + 1) ls (.int (nI len) :: st) w n bc bs Q) : ab_Ev X l y pc ls (.ref q :: st) w n bc bs Q := by
  intro p e R s m args below meth c A ad0 Z hB hF H locs cells slots ad ws lsr str hh hl hs hc hsl
  have hx := hB.1
  have hb := hB.2.1
  match str, hs with
  | _ :: str, ⟨g1, hs⟩ =>
    obtain ⟨z, g3, rfl⟩ := g1
    have hh0 := hh
    obtain ⟨hp0, hn0, hw0, hP, hD, hS⟩ := hh
    obtain ⟨e', w1, w2⟩ := hw0.2 q z g3
    rw [hw] at w2
    cases w2
    refine va_alen (D := X.1) (cl := vwCl) (tys := ab_tys X.2.1) hx hb hB.2.2.2.2.2.2.2.2.1 hP q 2 w1 rfl rfl hd ?_
    exact h p e R s m args below meth c A ad0 Z hB hF H locs cells slots ad ws lsr _ hh0 hl ⟨rfl, hs⟩ hc hsl
theorem ab_x_alen3 {X : ab_X} {l : Launch} {y pc : Nat} {ls : ab_L} {st : List Value} {w : ab_W} {n bc bs : Nat} {Q : ab_Q} {q len : Nat} {f : Nat → Option Nat} (hd : decode (ab_by y) pc = .ok (.arraylength, 1)) (hw : w q = .inl (3, len, .inr (.inr (.inr (.inr f))))) (h : ab_Ev X l y (pc + 1) ls (.int (nI len) :: st) w n bc bs Q) : ab_Ev X l y pc ls (.ref q :: st) w n bc bs Q := by
  intro p e R s m args below meth c A ad0 Z hB hF H locs cells slots ad ws lsr str hh hl hs hc hsl
  have hx := hB.1
  have hb := hB.2.1
  match str, hs with
  | _ :: str, ⟨g1, hs⟩ =>
    obtain ⟨z, g3, rfl⟩ := g1
    have hh0 := hh
    obtain ⟨hp0, hn0, hw0, hP, hD, hS⟩ := hh
    obtain ⟨e', w1, w2⟩ := hw0.2 q z g3
    rw [hw] at w2
    obtain ⟨f', rfl, w3⟩ := w2
    refine va_alen (D := X.1) (cl := vwCl) (tys := ab_tys X.2.1) hx hb hB.2.2.2.2.2.2.2.2.1 hP q 3 w1 rfl rfl hd ?_
    exact h p e R s m args below meth c A ad0 Z hB hF H locs cells slots ad ws lsr _ hh0 hl ⟨rfl, hs⟩ hc hsl
theorem ab_x_getSV {X : ab_X} {l : Launch} {y pc : Nat} {ls : ab_L} {st : List Value} {w : ab_W} {n bc bs : Nat} {Q : ab_Q} {i j : Nat} (hd : decode (ab_by y) pc = .ok (.getfield i, 3)) (hj : j < 17) (hlk : Cond.fieldLink (ab_cn (ab_oc y)) i "java/lang/String" "value" "[B" ∈ lw_tbl) (h : ab_Ev X l y (pc + 3) ls (.retAddr (2000 + j) :: st) w n bc bs Q) : ab_Ev X l y pc ls (.retAddr j :: st) w n bc bs Q := by
  intro p e R s m args below meth c A ad0 Z hB hF H locs cells slots ad ws lsr str hh hl hs hc hsl
  have hx := hB.1
  have hb := hB.2.1
  match str, hs with
  | _ :: str, ⟨g1, hs⟩ =>
    cases g1
    refine vk_getf hx hb ((hB.2.2.2.2.2.2.2.2.2.2.2.2.2.2.1.1 j hj).2.2.1) hh.2.2.2.2.2 hB.2.2.2.2.1 (hB.2.2.2.2.2.1 _ (ab_tbm hlk rfl)) (fun _ h9 => h9) hd ?_
    exact h p e R s m args below meth c A ad0 Z hB hF H locs cells slots ad ws lsr _ hh hl ⟨rfl, hs⟩ hc hsl
theorem ab_x_getSC {X : ab_X} {l : Launch} {y pc : Nat} {ls : ab_L} {st : List Value} {w : ab_W} {n bc bs : Nat} {Q : ab_Q} {i j : Nat} (hd : decode (ab_by y) pc = .ok (.getfield i, 3)) (hj : j < 17) (hlk : Cond.fieldLink (ab_cn (ab_oc y)) i "java/lang/String" "coder" "B" ∈ lw_tbl) (h : ab_Ev X l y (pc + 3) ls (.int 0 :: st) w n bc bs Q) : ab_Ev X l y pc ls (.retAddr j :: st) w n bc bs Q := by
  intro p e R s m args below meth c A ad0 Z hB hF H locs cells slots ad ws lsr str hh hl hs hc hsl
  have hx := hB.1
  have hb := hB.2.1
  match str, hs with
  | _ :: str, ⟨g1, hs⟩ =>
    cases g1
    refine vk_getf hx hb ((hB.2.2.2.2.2.2.2.2.2.2.2.2.2.2.1.1 j hj).2.1) hh.2.2.2.2.2 hB.2.2.2.2.1 (hB.2.2.2.2.2.1 _ (ab_tbm hlk rfl)) (fun _ h9 => h9) hd ?_
    exact h p e R s m args below meth c A ad0 Z hB hF H locs cells slots ad ws lsr _ hh hl ⟨rfl, hs⟩ hc hsl
theorem ab_x_getst {X : ab_X} {l : Launch} {y pc : Nat} {ls : ab_L} {st : List Value} {w : ab_W} {n bc bs : Nat} {Q : ab_Q} {i : Nat} (hd : decode (ab_by y) pc = .ok (.getstatic i, 3)) (hlk : Cond.fieldLink (ab_cn (ab_oc y)) i "java/lang/String" "COMPACT_STRINGS" "Z" ∈ lw_tbl) (h : ab_Ev X l y (pc + 3) ls (.int 1 :: st) w n bc bs Q) : ab_Ev X l y pc ls st w n bc bs Q := by
  intro p e R s m args below meth c A ad0 Z hB hF H locs cells slots ad ws lsr str hh hl hs hc hsl
  have hx := hB.1
  have hb := hB.2.1
  refine va_gets hx hb hB.2.2.2.2.2.2.2.2.2.2.2.2.2.2.2.1 hh.2.2.2.2.2 hB.2.2.2.2.1 (hB.2.2.2.2.2.1 _ (ab_tbm hlk rfl)) (fun _ h9 => h9) hd ?_
  exact h p e R s m args below meth c A ad0 Z hB hF H locs cells slots ad ws lsr _ hh hl ⟨rfl, hs⟩ hc hsl
theorem ab_x_getsq {X : ab_X} {l : Launch} {y pc : Nat} {ls : ab_L} {st : List Value} {w : ab_W} {n bc bs : Nat} {Q : ab_Q} {i : Nat} (hd : decode (ab_by y) pc = .ok (.getstatic i, 3)) (hlk : Cond.fieldLink (ab_cn (ab_oc y)) i "jdk/internal/util/Preconditions" "SIOOBE_FORMATTER" "Ljava/util/function/BiFunction;" ∈ lw_tbl) (h : ab_Ev X l y (pc + 3) ls (.null :: st) w n bc bs Q) (h2 : ab_Ev X l y (pc + 3) ls (.retAddr 3000 :: st) w n bc bs Q) : ab_Ev X l y pc ls st w n bc bs Q := by
  intro p e R s m args below meth c A ad0 Z hB hF H locs cells slots ad ws lsr str hh hl hs hc hsl
  have hx := hB.1
  have hb := hB.2.1
  rcases hB.2.2.2.2.2.2.2.2.2.2.2.2.2.2.2.2.1 with hZ | hZ
  · refine va_gets hx hb hZ hh.2.2.2.2.2 hB.2.2.2.2.1 (hB.2.2.2.2.2.1 _ (ab_tbm hlk rfl)) (fun _ h9 => h9) hd ?_
    exact h p e R s m args below meth c A ad0 Z hB hF H locs cells slots ad ws lsr _ hh hl ⟨rfl, hs⟩ hc hsl
  · refine va_gets hx hb hZ hh.2.2.2.2.2 hB.2.2.2.2.1 (hB.2.2.2.2.2.1 _ (ab_tbm hlk rfl)) (fun _ h9 => h9) hd ?_
    exact h2 p e R s m args below meth c A ad0 Z hB hF H locs cells slots ad ws lsr _ hh hl ⟨rfl, hs⟩ hc hsl
theorem ab_x_alenS {X : ab_X} {l : Launch} {y pc : Nat} {ls : ab_L} {st : List Value} {w : ab_W} {n bc bs : Nat} {Q : ab_Q} {j : Nat} (hd : decode (ab_by y) pc = .ok (.arraylength, 1)) (hj : j < 17) (h : ab_Ev X l y (pc + 1) ls (.int (nI (ab_sln j)) :: st) w n bc bs Q) : ab_Ev X l y pc ls (.retAddr (2000 + j) :: st) w n bc bs Q := by
  intro p e R s m args below meth c A ad0 Z hB hF H locs cells slots ad ws lsr str hh hl hs hc hsl
  have hx := hB.1
  have hb := hB.2.1
  match str, hs with
  | _ :: str, ⟨g1, hs⟩ =>
    cases g1
    refine va_tlen hx hb ((hB.2.2.2.2.2.2.2.2.2.2.2.2.2.2.1.1 j hj).2.2.2) hh.2.2.2.2.2 rfl hd ?_
    exact h p e R s m args below meth c A ad0 Z hB hF H locs cells slots ad ws lsr _ hh hl ⟨rfl, hs⟩ hc hsl
theorem ab_x_alenX {X : ab_X} {l : Launch} {y pc : Nat} {ls : ab_L} {st : List Value} {w : ab_W} {n bc bs : Nat} {Q : ab_Q} (hd : decode (ab_by y) pc = .ok (.arraylength, 1)) (h : ab_Ev X l y (pc + 1) ls (.int (nI X.2.2.2.1) :: st) w n bc bs Q) : ab_Ev X l y pc ls (.retAddr 1000 :: st) w n bc bs Q := by
  intro p e R s m args below meth c A ad0 Z hB hF H locs cells slots ad ws lsr str hh hl hs hc hsl
  have hx := hB.1
  have hb := hB.2.1
  match str, hs with
  | _ :: str, ⟨g1, hs⟩ =>
    cases g1
    refine va_tlen hx hb hB.2.2.2.2.2.2.2.2.2.2.2.2.1 hh.2.2.2.2.2 rfl hd ?_
    exact h p e R s m args below meth c A ad0 Z hB hF H locs cells slots ad ws lsr _ hh hl ⟨rfl, hs⟩ hc hsl
theorem ab_x_baloadS {X : ab_X} {l : Launch} {y pc : Nat} {ls : ab_L} {st : List Value} {w : ab_W} {n bc bs : Nat} {Q : ab_Q} {i : Int32} {j : Nat} (hd : decode (ab_by y) pc = .ok (.baload, 1)) (hj : j < 17) (hin : vp_in i (ab_sln j)) (h : ab_Ev X l y (pc + 1) ls (.int (ab_sby j i.toNatClampNeg) :: st) w n bc bs Q) : ab_Ev X l y pc ls (.int i :: .retAddr (2000 + j) :: st) w n bc bs Q := by
  intro p e R s m args below meth c A ad0 Z hB hF H locs cells slots ad ws lsr str hh hl hs hc hsl
  have hx := hB.1
  have hb := hB.2.1
  match str, hs with
  | _ :: _ :: str, ⟨g0, g1, hs⟩ =>
    cases g0
    cases g1
    refine va_tb hx hb ((hB.2.2.2.2.2.2.2.2.2.2.2.2.2.2.1.1 j hj).2.2.2) hh.2.2.2.2.2 hin rfl hd ?_
    exact h p e R s m args below meth c A ad0 Z hB hF H locs cells slots ad ws lsr _ hh hl ⟨rfl, hs⟩ hc hsl
theorem ab_x_ialoadX {X : ab_X} {l : Launch} {y pc : Nat} {ls : ab_L} {st : List Value} {w : ab_W} {n bc bs : Nat} {Q : ab_Q} {i : Int32} (hd : decode (ab_by y) pc = .ok (.iaload, 1)) (hin : vp_in i X.2.2.2.1) (h : ab_Ev X l y (pc + 1) ls (.int (X.2.2.2.2 i.toNatClampNeg) :: st) w n bc bs Q) : ab_Ev X l y pc ls (.int i :: .retAddr 1000 :: st) w n bc bs Q := by
  intro p e R s m args below meth c A ad0 Z hB hF H locs cells slots ad ws lsr str hh hl hs hc hsl
  have hx := hB.1
  have hb := hB.2.1
  match str, hs with
  | _ :: _ :: str, ⟨g0, g1, hs⟩ =>
    cases g0
    cases g1
    refine va_ti hx hb hB.2.2.2.2.2.2.2.2.2.2.2.2.1 hh.2.2.2.2.2 hin rfl hd ?_
    exact h p e R s m args below meth c A ad0 Z hB hF H locs cells slots ad ws lsr _ hh hl ⟨rfl, hs⟩ hc hsl
theorem ab_x_ldcS {X : ab_X} {l : Launch} {y pc : Nat} {ls : ab_L} {st : List Value} {w : ab_W} {n bc bs : Nat} {Q : ab_Q} {i j : Nat} {tx : String} (hd : decode (ab_by y) pc = .ok (.ldc i, 2)) (hj : ab_str[j]? = some (ab_cn (ab_oc y), i, tx)) (h : ab_Ev X l y (pc + 2) ls (.retAddr j :: st) w n bc bs Q) : ab_Ev X l y pc ls st w n bc bs Q := by
  intro p e R s m args below meth c A ad0 Z hB hF H locs cells slots ad ws lsr str hh hl hs hc hsl
  have hx := hB.1
  have hb := hB.2.1
  have hz : vk_R (ab_cn (ab_oc y)) i tx (X.2.2.1 j) s := hB.2.2.2.2.2.2.2.2.2.2.2.2.2.1.2.2 j (ab_cn (ab_oc y), i, tx) hj
  refine va_ldcS (own := ab_cn (ab_oc y)) (tx := tx) (index := i) (q := X.2.2.1 j) hx hb hB.2.2.2.2.1 hz hd ?_
  exact h p e R s m args below meth c A ad0 Z hB hF H locs cells slots ad ws lsr _ hh hl ⟨rfl, hs⟩ hc hsl
