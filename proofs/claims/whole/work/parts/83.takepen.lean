/-! the model's arms of a pen -/
def MKit (w : ab_W) (K : KA) (nr nw np : Nat) : Prop := (∃ f, w 93 = aI 2 f ∧ f 0 = nI nr) ∧ (∃ f, w 94 = aI 2 f ∧ f 0 = nI nw) ∧ (∃ f, w 95 = aI 2 f ∧ f 0 = nI np) ∧ (∃ f, w 98 = aI 24 f ∧ ∀ v, v < nw → (∀ b, kBs K v = some b → f v = nI (4 + b)) ∧ (kBs K v = none → ∃ r, r < 4 ∧ f v = nI r)) ∧ (∃ f, w 99 = aI 24 f ∧ ∀ v, v < nw → f v = kSp K v) ∧ (∃ f, w 101 = aI 16 f ∧ ∀ v, v < np → f v = nI (kPw K v)) ∧ (∃ f, w 102 = aI 16 f ∧ ∀ v, v < np → f v = kPo K v) ∧ (∃ f, w 103 = aJ 24 f ∧ ∀ v, v < nw → f v = (kUp K v).toInt64) ∧ (∃ f, w 104 = aJ 24 f ∧ ∀ v, v < nw → f v = (kLo K v).toInt64) ∧ (∃ f, w 105 = aJ 24 f ∧ ∀ v, v < nw → f v = (kSu K v).toInt64) ∧ ∃ f, w 106 = aJ 24 f ∧ ∀ v, v < nw → f v = (kSl K v).toInt64
theorem MKit.fr {F : Nat → Prop} {w w' : ab_W} {K : KA} {nr nw np : Nat} (h : MKit w K nr nw np) (hf : Fr F w w') (hF : ∀ k, F k → ¬ (92 ≤ k ∧ k ≤ 106)) : MKit w' K nr nw np := by
  have z : ∀ k, (92 ≤ k ∧ k ≤ 106) → ¬ F k := fun k a b => hF k b a
  obtain ⟨⟨f1, h1, g1⟩, ⟨f2, h2, g2⟩, ⟨f3, h3, g3⟩, ⟨f4, h4, g4⟩, ⟨f5, h5, g5⟩, ⟨f6, h6, g6⟩, ⟨f7, h7, g7⟩, ⟨f8, h8, g8⟩, ⟨f9, h9, g9⟩, ⟨f10, h10, g10⟩, f11, h11, g11⟩ := h
  exact ⟨⟨f1, hf.get h1 (z _ (by omega)), g1⟩, ⟨f2, hf.get h2 (z _ (by omega)), g2⟩, ⟨f3, hf.get h3 (z _ (by omega)), g3⟩, ⟨f4, hf.get h4 (z _ (by omega)), g4⟩, ⟨f5, hf.get h5 (z _ (by omega)), g5⟩, ⟨f6, hf.get h6 (z _ (by omega)), g6⟩, ⟨f7, hf.get h7 (z _ (by omega)), g7⟩, ⟨f8, hf.get h8 (z _ (by omega)), g8⟩, ⟨f9, hf.get h9 (z _ (by omega)), g9⟩, ⟨f10, hf.get h10 (z _ (by omega)), g10⟩, f11, hf.get h11 (z _ (by omega)), g11⟩
def MA (w : ab_W) : Prop := (∃ f, w 107 = aJ 6 f) ∧ (∃ f, w 108 = aJ 6 f) ∧ (∃ f, w 109 = aJ 6 f) ∧ ∃ f, w 110 = aI 6 f
theorem MA.fr {F : Nat → Prop} {w w' : ab_W} (h : MA w) (hf : Fr F w w') (hF : ∀ k, F k → ¬ (107 ≤ k ∧ k ≤ 110)) : MA w' := by
  have z : ∀ k, (107 ≤ k ∧ k ≤ 110) → ¬ F k := fun k a b => hF k b a
  obtain ⟨⟨f1, h1⟩, ⟨f2, h2⟩, ⟨f3, h3⟩, f4, h4⟩ := h
  exact ⟨⟨f1, hf.get h1 (z _ (by omega))⟩, ⟨f2, hf.get h2 (z _ (by omega))⟩, ⟨f3, hf.get h3 (z _ (by omega))⟩, f4, hf.get h4 (z _ (by omega))⟩
def PnM (w : ab_W) (K : KA) (p : Nat) : Prop := (∃ f, w 107 = aJ 6 f) ∧ (∃ f, w 108 = aJ 6 f) ∧ (∃ f, w 109 = aJ 6 f ∧ ∀ k, k < (PnL K p).length → f k = PnW K p (PnO K p k)) ∧ ∃ f, w 110 = aI 6 f ∧ ∀ k, k < (PnL K p).length → f k = Int32.ofInt (PnS K p (PnO K p k))
theorem PnM.ma {w : ab_W} {K : KA} {p : Nat} (h : PnM w K p) : MA w := by
  obtain ⟨h1, h2, ⟨f3, h3, -⟩, f4, h4, -⟩ := h
  exact ⟨h1, h2, ⟨f3, h3⟩, f4, h4⟩
abbrev FZ (k : Nat) : Prop := k = 90 ∨ (107 ≤ k ∧ k ≤ 110)
section TAKEPEN
variable {X : ab_X} {l : Launch}
/-- the sorting -/
theorem e_sortM (m p : Nat) (W : Nat → Int64) (S : Nat → Int32) (w : ab_W) (n : Nat) {Q : ab_Q} {l2 l3 : Int32} {f : Nat → Int64} {g : Nat → Int32} (hm : m ≤ 5) (h109 : w 109 = aJ 6 f) (h110 : w 110 = aI 6 g) {sc : Nat → Int32} {wd tn : Int64} (h90 : w 90 = oMod sc wd tn) (hf : ∀ k, k < m → f k = W k) (hg : ∀ k, k < m → g k = S k)
    (hQ : ∀ w', Fr (fun k => k = 109 ∨ k = 110) w w' → (∃ f, w' 109 = aJ 6 f ∧ ∀ k, k < m → f k = W (srtW W m k)) → (∃ g, w' 110 = aI 6 g ∧ ∀ k, k < m → g k = S (srtW W m k)) → Q none w' n) :
    ab_Ev X l i_Mod_takePen 238 [some (.ref 90), some (.int (nI p)), some (.int l2), some (.int l3), some (.int (nI m)), some (.int (nI m)), none, none, none, none] [] w n 0 0 Q := by
  have loop : ∀ i, i ≤ m → 1 ≤ i → ∀ w3 f g, Fr (fun k => k = 109 ∨ k = 110) w w3 → w3 109 = aJ 6 f → w3 110 = aI 6 g → (∀ k, k < m → f k = W (srtW W i k)) → (∀ k, k < m → g k = S (srtW W i k)) → ∀ l6 l7 l8 l9 : Option Value, ab_Ev X l i_Mod_takePen 241 [some (.ref 90), some (.int (nI p)), some (.int l2), some (.int l3), some (.int (nI m)), some (.int (nI i)), l6, l7, l8, l9] [] w3 n 0 0 Q := by
    refine ab_up m ?_ (fun i hi ih => ?_)
    · intro _ w3 f g hfr k9 k10 q1 q2 l6 l7 l8 l9
      refine ab_sound ok_187 [241] 80 ?_
      refine And.intro (fun _ => ?_) (fun h_9 => absurd (nI_le (Nat.le_refl _) (by omega)) h_9)
      exact hQ w3 hfr ⟨f, k9, q1⟩ ⟨g, k10, q2⟩
    · intro hi1 w3 f g hfr k9 k10 q1 q2 l6 l7 l8 l9
      have inn : ∀ j, j ≤ i → ∀ w4 f g sg, Fr (fun k => k = 109 ∨ k = 110) w w4 → w4 109 = aJ 6 f → w4 110 = aI 6 g → (∀ k, k < m → f k = W (sg k)) → (∀ k, k < m → g k = S (sg k)) → insW W j sg = srtW W (i + 1) → ∀ l7 l8 l9 : Option Value, ab_Ev X l i_Mod_takePen 252 [some (.ref 90), some (.int (nI p)), some (.int l2), some (.int l3), some (.int (nI m)), some (.int (nI i)), some (.int (nI j)), l7, l8, l9] [] w4 n 0 0 Q := by
        intro j
        induction j with
        | zero =>
          intro _ w4 f g sg hfr k9 k10 p1 p2 p3 l7 l8 l9
          have p3 : sg = srtW W (i + 1) := p3
          subst p3
          refine ab_sound ok_187 [241] 80 ?_
          refine And.intro (fun _ => ?_) (fun h_9 => absurd ((by decide)) h_9)
          exact ab_ev_of (ih (by omega) w4 f g hfr k9 k10 p1 p2 (some (.int (nI 0))) l7 l8 l9) (by rw [nI_s i]; rfl) rfl rfl
        | succ j jh =>
          intro hj w4 f g sg hfr k9 k10 p1 p2 p3 l7 l8 l9
          have k90 := hfr.get h90 (by omega)
          have hs1 : nI (j + 1) - nI 1 = nI j := by rw [pk_sub (by omega)]; rfl
          have p3 : (if W (sg (j + 1)) < W (sg j) then insW W j (swp sg j) else sg) = srtW W (i + 1) := p3
          have f1 := p1 (j + 1) (by omega)
          have f0 := p1 j (by omega)
          have g1 := p2 (j + 1) (by omega)
          have g0 := p2 j (by omega)
          have stopc := fun (e : ¬ W (sg (j + 1)) < W (sg j)) => (by rw [if_neg e] at p3; exact p3 : sg = srtW W (i + 1))
          obtain ⟨w4, rfl⟩ := va_ex3 k90 k9 k10
          refine ab_sound ok_187 [241, 252] 100 ?_
          refine And.intro (fun h_9 => absurd h_9 ((by have := nI_ge (show 0 < j + 1 by omega) (show j + 1 < 2 ^ 31 by omega); exact this))) (fun _ => ?_)
          refine And.intro ((by rw [hs1]; exact vp_in_nI (by omega) (by omega))) ?_
          refine And.intro (vp_in_nI (by omega) (by omega)) ?_
          rw [hs1, nI_clamp (by omega), nI_clamp (by omega), f1, f0]
          refine And.intro (fun e1 => ?_) (fun e1 => ?_)
          · have e1 := lg_le.mp e1
            have hz := stopc (fun z => by rw [i64_lt] at z; rw [i64_le] at e1; omega)
            subst hz
            exact ab_ev_of (ih (by omega) _ f g hfr rfl rfl p1 p2 (some (.int (nI (j + 1)))) l7 l8 l9) (by rw [nI_s i]; rfl) rfl rfl
          · have e1 : W (sg (j + 1)) < W (sg j) := by
              have h9 : ¬ W (sg j) ≤ W (sg (j + 1)) := fun z => e1 (lg_le.mpr z)
              rw [i64_lt]
              rw [i64_le] at h9
              omega
            rw [if_pos e1] at p3
            refine And.intro (vp_in_nI (by omega) (by omega)) ?_
            refine And.intro ((by rw [hs1]; exact vp_in_nI (by omega) (by omega))) ?_
            refine And.intro (vp_in_nI (by omega) (by omega)) ?_
            refine And.intro ((by rw [hs1]; exact vp_in_nI (by omega) (by omega))) ?_
            refine And.intro (vp_in_nI (by omega) (by omega)) ?_
            refine And.intro ((by rw [hs1]; exact vp_in_nI (by omega) (by omega))) ?_
            refine And.intro (vp_in_nI (by omega) (by omega)) ?_
            refine And.intro ((by rw [hs1]; exact vp_in_nI (by omega) (by omega))) ?_
            rw [hs1, nI_clamp (show j + 1 < 2 ^ 31 by omega), nI_clamp (show j < 2 ^ 31 by omega)]
            refine ab_ev_of (jh (by omega) _ (vp_updL (vp_updL f (j + 1) (f j)) j (f (j + 1))) (upd (upd g (j + 1) (g j)) j (g (j + 1))) (swp sg j) ((((hfr.up (by omega)).up (by omega)).up (by omega)).up (by omega)) rfl rfl ?_ ?_ p3 (some (.long (f (j + 1)))) none (some (.int (g (j + 1))))) ?_ rfl rfl
            · intro k hk
              unfold swp
              by_cases a1 : k = j
              · rw [if_pos a1, a1, vp_at]; exact f1
              · rw [if_neg a1, vp_ne a1]
                by_cases a2 : k = j + 1
                · rw [if_pos a2, a2, vp_at]; exact f0
                · rw [if_neg a2, vp_ne a2]; exact p1 k hk
            · intro k hk
              unfold swp
              by_cases a1 : k = j
              · rw [if_pos a1, a1, upd_at]; exact g1
              · rw [if_neg a1, upd_ne a1]
                by_cases a2 : k = j + 1
                · rw [if_pos a2, a2, upd_at]; exact g0
                · rw [if_neg a2, upd_ne a2]; exact p2 k hk
            · show [_, _, _, _, _, _, some (Value.int (nI (j + 1) - nI 1)), _, _, _] = _
              rw [hs1]
      refine ab_sound ok_187 [241, 252] 80 ?_
      refine And.intro (fun h_9 => absurd h_9 (nI_ge hi (by omega))) (fun _ => ?_)
      exact ab_ev_of (inn i (Nat.le_refl _) w3 f g (srtW W i) hfr k9 k10 q1 q2 rfl l7 l8 l9) rfl rfl rfl
  by_cases e : m = 0
  · subst e
    refine ab_sound ok_187 [] 80 ?_
    refine And.intro (fun _ => ?_) (fun h_9 => absurd ((by decide)) h_9)
    exact hQ w Fr.refl ⟨f, h109, fun k hk => by omega⟩ ⟨g, h110, fun k hk => by omega⟩
  · refine ab_sound ok_187 [241] 80 ?_
    exact ab_ev_of (loop 1 (by omega) (Nat.le_refl _) w f g Fr.refl h109 h110 hf hg none none none none) rfl rfl rfl
/-- the windings -/
theorem e_windM (L : List Arm) (T p : Nat) (w : ab_W) (n : Nat) {Q : ab_Q} {l2 l3 : Int32} {u d f : Nat → Int64} {s : Nat → Int32} (hL : L.length ≤ 5) (hok : LOk L) (hT2 : T ≤ 9999 * 99 ^ 4) {sc : Nat → Int32} {wd : Int64} (h90 : w 90 = oMod sc wd (lN T)) (h107 : w 107 = aJ 6 u) (h108 : w 108 = aJ 6 d) (h109 : w 109 = aJ 6 f) (hp : pmI L u d s)
    (hQ : ∀ w', Fr (fun k => k = 109) w w' → (∃ f, w' 109 = aJ 6 f ∧ ∀ k, k < L.length → f k = wnd L T k) → ab_Ev X l i_Mod_takePen 238 [some (.ref 90), some (.int (nI p)), some (.int l2), some (.int l3), some (.int (nI L.length)), some (.int (nI L.length)), none, none, none, none] [] w' n 0 0 Q) :
    ab_Ev X l i_Mod_takePen 198 [some (.ref 90), some (.int (nI p)), some (.int l2), some (.int l3), some (.int (nI L.length)), some (.int (nI 0)), none, none, none, none] [] w n 0 0 Q := by
  have loop : ∀ i, i ≤ L.length → ∀ w3 f, Fr (fun k => k = 109) w w3 → w3 109 = aJ 6 f → (∀ k, k < i → f k = wnd L T k) → ab_Ev X l i_Mod_takePen 198 [some (.ref 90), some (.int (nI p)), some (.int l2), some (.int l3), some (.int (nI L.length)), some (.int (nI i)), none, none, none, none] [] w3 n 0 0 Q := by
    refine ab_up L.length ?_ (fun i hi ih => ?_)
    · intro w3 f hf k9 q
      refine ab_sound ok_187 [238] 80 ?_
      refine And.intro (fun _ => ?_) (fun h_9 => absurd (nI_le (Nat.le_refl _) (by omega)) h_9)
      exact hQ w3 hf ⟨f, k9, q⟩
    · intro w3 f hf k9 q
      have k90 := hf.get h90 (by omega)
      have k7 := hf.get h107 (by omega)
      have k8 := hf.get h108 (by omega)
      obtain ⟨r1, r2, r3⟩ := hp i hi
      obtain ⟨x1, x2, x3, x4, x5⟩ := hok.1 _ (getD_mem hi)
      rw [x1] at r2
      have hw : wnd L T i = lN (T / dn (L.getD i arD)) * (L.getD i arD).1 := rfl
      generalize hxe : L.getD i arD = x at *
      have hn0 : ¬ lN (dn x) = 0 := fun z => by have := (lN_eq (b := 0) (by omega) (by omega)).mp z; omega
      obtain ⟨w3, rfl⟩ := va_ex4 k90 k7 k8 k9
      refine ab_sound ok_187 [198] 80 ?_
      refine And.intro (fun h_9 => absurd h_9 (nI_ge hi (by omega))) (fun _ => ?_)
      refine And.intro (vp_in_nI (by omega) (by omega)) ?_
      refine And.intro (vp_in_nI (by omega) (by omega)) ?_
      rw [nI_clamp (by omega), r1, r2]
      refine And.intro (hn0) ?_
      refine And.intro (vp_in_nI (by omega) (by omega)) ?_
      rw [nI_clamp (by omega), lN_div (by omega) (by omega) (by omega), Int64.mul_comm x.1, ← hw]
      refine ab_ev_of (ih _ _ (hf.up (by omega)) rfl (fun k hk => ?_)) (by rw [nI_s i]; rfl) rfl rfl
      by_cases e : k = i
      · rw [e, vp_at]
      · rw [vp_ne e]; exact q k (by omega)
  exact loop 0 (by omega) w f Fr.refl h109 (fun k hk => by omega)
theorem flt_c (x : Arm) (L : List Arm) : fltA (x :: L) = if x.2.2 = 0 then fltA L else x :: fltA L := by
  unfold fltA
  rw [List.filter_cons]
  by_cases e : x.2.2 = 0
  · rw [if_pos e, if_neg (by rw [decide_eq_true_iff]; exact fun z => z e)]
  · rw [if_neg e, if_pos (by rw [decide_eq_true_iff]; exact e)]
/-- what is left, and the turns -/
theorem e_fltM (L : List Arm) (p : Nat) (w : ab_W) (n : Nat) {Q : ab_Q} {l2 l3 : Int32} {u d : Nat → Int64} {s : Nat → Int32} (hL : L.length ≤ 5) (hok : LOk L) {sc : Nat → Int32} {wd : Int64} (h90 : w 90 = oMod sc wd (lN 1)) (hsc : sc 33 = nI L.length) (h107 : w 107 = aJ 6 u) (h108 : w 108 = aJ 6 d) (h110 : w 110 = aI 6 s) (hp : pmI L u d s)
    (hQ : ∀ w' u d s, Fr (fun k => k = 90 ∨ k = 107 ∨ k = 108 ∨ k = 110) w w' → w' 90 = oMod sc wd (lN (TLr 1 (fltA L))) → TLr 1 (fltA L) ≤ 9999 * 99 ^ 4 → w' 107 = aJ 6 u → w' 108 = aJ 6 d → w' 110 = aI 6 s → pmI (fltA L) u d s → ab_Ev X l i_Mod_takePen 189 [some (.ref 90), some (.int (nI p)), some (.int l2), some (.int l3), some (.int (nI (fltA L).length)), some (.int (nI L.length)), none, none, none, none] [] w' n 0 0 Q) :
    ab_Ev X l i_Mod_takePen 85 [some (.ref 90), some (.int (nI p)), some (.int l2), some (.int l3), some (.int (nI 0)), some (.int (nI 0)), none, none, none, none] [] w n 0 0 Q := by
  generalize hT : TLr 1 (fltA L) = T at *
  have loop : ∀ i, i ≤ L.length → ∀ w3 u d s t, Fr (fun k => k = 90 ∨ k = 107 ∨ k = 108 ∨ k = 110) w w3 → w3 90 = oMod sc wd (lN t) → w3 107 = aJ 6 u → w3 108 = aJ 6 d → w3 110 = aI 6 s → pmI (fltA (L.take i)) u d s → (∀ j, i ≤ j → j < L.length → u j = (L.getD j arD).1 ∧ d j = (L.getD j arD).2.1 ∧ s j = Int32.ofInt (L.getD j arD).2.2) → 1 ≤ t → TLr t (fltA (L.drop i)) = T → t * prd (fltA (L.drop i)) ≤ 9999 * 99 ^ 4 → ab_Ev X l i_Mod_takePen 85 [some (.ref 90), some (.int (nI p)), some (.int l2), some (.int l3), some (.int (nI (fltA (L.take i)).length)), some (.int (nI i)), none, none, none, none] [] w3 n 0 0 Q := by
    refine ab_up L.length ?_ (fun i hi ih => ?_)
    · intro w3 u d s t hf k90 k7 k8 k10 q1 q2 ht1 ht2 ht3
      rw [List.drop_length] at ht2 ht3
      rw [List.take_length] at q1 ⊢
      have hTb : t ≤ 9999 * 99 ^ 4 := by
        have h9 : t * 1 ≤ 9999 * 99 ^ 4 := ht3
        omega
      have ht2 : t = T := ht2
      rw [ht2] at k90 hTb
      have go := hQ w3 u d s hf k90 hTb k7 k8 k10 q1
      obtain ⟨w3, rfl⟩ := va_ex k90
      refine ab_sound ok_187 [189] 80 ?_
      refine And.intro (fun _ => ?_) (fun h_9 => absurd ((by rw [hsc]; exact nI_le (Nat.le_refl _) (by omega))) h_9)
      exact go
    · intro w3 u d s t hf k90 k7 k8 k10 q1 q2 ht1 ht2 ht3
      have hle : (fltA (L.take i)).length ≤ i := by
        have h1 := flt_len (L.take i)
        rw [List.length_take] at h1
        omega
      obtain ⟨r1, r2, r3⟩ := q2 i (Nat.le_refl _) hi
      have hx := hok.1 _ (getD_mem hi)
      have hs := flt_s hi
      have happ := q1.app (L.getD i arD).1 (L.getD i arD).2.1 (L.getD i arD).2.2
      rw [drop_c hi, flt_c] at ht2 ht3
      generalize hxe : L.getD i arD = x at *
      obtain ⟨x1, x2, x3, x4, x5⟩ := id hx
      obtain ⟨w3, rfl⟩ := va_ex4 k90 k7 k8 k10
      refine ab_sound ok_187 [85] 100 ?_
      refine And.intro (fun h_9 => absurd h_9 ((by rw [hsc]; exact nI_ge hi (by omega)))) (fun _ => ?_)
      refine And.intro (vp_in_nI (by omega) (by omega)) ?_
      rw [nI_clamp (by omega), r3]
      refine And.intro (fun e1 => ?_) (fun e1 => ?_)
      · have e1 : ¬ x.2.2 = 0 := fun z => e1 ((of0i x5).mpr z)
        rw [if_neg e1] at hs ht2 ht3
        rw [hs] at ih
        generalize hle2 : (fltA (L.take i)).length = c at *
        have hl2 : (fltA (L.take i) ++ [x]).length = c + 1 := by rw [List.length_append, hle2]; rfl
        rw [hl2] at ih
        have ht2 : TLr (Nat.lcm t (dn x)) (fltA (L.drop (i + 1))) = T := ht2
        have ht3 : t * (dn x * prd (fltA (L.drop (i + 1)))) ≤ 9999 * 99 ^ 4 := ht3
        have hpp : 1 ≤ prd (fltA (L.drop (i + 1))) := prd_pos (fun y hy => hok.1 y (List.mem_of_mem_drop (List.mem_filter.mp hy).1))
        have hlt : t ≤ 9999 * 99 ^ 4 := Nat.le_trans (Nat.le_mul_of_pos_right t (Nat.mul_pos x2 hpp)) ht3
        have hg1 : 1 ≤ Nat.gcd t (dn x) := Nat.gcd_pos_of_pos_left _ ht1
        have hg2 : Nat.gcd t (dn x) ≤ dn x := Nat.gcd_le_right _ x2
        have hlcm : Nat.lcm t (dn x) = t / Nat.gcd t (dn x) * dn x := by
          unfold Nat.lcm
          rw [Nat.mul_comm t, Nat.mul_div_assoc _ (Nat.gcd_dvd_left t (dn x)), Nat.mul_comm]
        have hl1 : 1 ≤ Nat.lcm t (dn x) := Nat.lcm_pos ht1 x2
        have hl3 : Nat.lcm t (dn x) ≤ t * dn x := by
          rw [hlcm]
          exact Nat.mul_le_mul_right _ (Nat.div_le_self _ _)
        have ht4 : Nat.lcm t (dn x) * prd (fltA (L.drop (i + 1))) ≤ 9999 * 99 ^ 4 := by
          refine Nat.le_trans (Nat.mul_le_mul_right _ hl3) ?_
          rw [Nat.mul_assoc]
          exact ht3
        have ih2 := fun w5 u d s q1 q2 q3 q4 q5 q6 q7 => ih w5 u d s (Nat.lcm t (dn x)) q1 q2 q3 q4 q5 q6 q7 hl1 ht2 ht4
        rw [hlcm] at ih2
        have ev : ∀ g : Nat → Int64, vp_updL g c x.2.1 c = lN (dn x) := fun g => by rw [vp_at]; exact x1
        refine And.intro (vp_in_nI (by omega) (by omega)) ?_
        refine And.intro (vp_in_nI (by omega) (by omega)) ?_
        refine And.intro (vp_in_nI (by omega) (by omega)) ?_
        refine And.intro (vp_in_nI (by omega) (by omega)) ?_
        refine And.intro (vp_in_nI (by omega) (by omega)) ?_
        refine And.intro (vp_in_nI (by omega) (by omega)) ?_
        refine And.intro (vp_in_nI (by omega) (by omega)) ?_
        rw [nI_clamp (by omega), nI_clamp (by omega), r1, r2, r3, ev]
        (refine Exists.intro 0 ?_; refine ⟨0, _, Nat.zero_le _, Nat.zero_le _, c_Mod_divisor _ _ (by rw [lN_toI (by omega)]; omega) (by rw [lN_toI (by omega)]; omega) _ _, ?_⟩; refine ab_q1_elim ?_)
        rw [lN_toI (by omega), lN_toI (by omega), Int.natAbs_natCast, Int.natAbs_natCast]
        generalize Nat.gcd t (dn x) = g at *
        have hn0 : ¬ lN g = 0 := fun z => by have := (lN_eq (b := 0) (by omega) (by omega)).mp z; omega
        refine And.intro (hn0) ?_
        refine And.intro (vp_in_nI (by omega) (by omega)) ?_
        rw [nI_clamp (by omega), ev, lN_div (by omega) (by omega) (by omega)]
        refine ab_ev_of (ih2 _ _ _ _ ((((hf.up (by omega)).up (by omega)).up (by omega)).up (by omega)) ?_ rfl rfl rfl happ (fun j h1 h2 => ?_)) (by rw [nI_s i, nI_s c]; rfl) rfl rfl
        · show oMod sc wd (lN (t / g) * lN (dn x)) = _
          rw [lN_mul]
        · rw [vp_ne (by omega), vp_ne (by omega), upd_ne (by omega)]
          exact q2 j (by omega) h2
      · have e1 : x.2.2 = 0 := (of0i x5).mp e1
        rw [if_pos e1] at hs ht2 ht3
        rw [hs] at ih
        exact ab_ev_of (ih _ u d s t hf rfl rfl rfl rfl q1 (fun j h1 h2 => q2 j (by omega) h2) ht1 ht2 ht3) (by rw [nI_s i]; rfl) rfl rfl
  refine ab_ev_of (loop 0 (by omega) w u d s 1 Fr.refl h90 h107 h108 h110 (fun i hi => absurd hi (Nat.not_lt_zero _)) (fun j _ hj => hp j hj) (Nat.le_refl _) hT ?_) rfl rfl rfl
  rw [Nat.one_mul]
  exact hok.flt.2
end TAKEPEN
