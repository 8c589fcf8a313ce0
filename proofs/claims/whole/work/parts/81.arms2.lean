/-! what is left of the arms, their turns, their windings, their order -/
def fltA (L : List Arm) : List Arm := L.filter (fun x => decide (x.2.2 ≠ 0))
def dn (x : Arm) : Nat := x.2.1.toInt.toNat
def prd : List Arm → Nat
  | [] => 1
  | x :: L => dn x * prd L
def AOk (x : Arm) : Prop := x.2.1 = lN (dn x) ∧ 1 ≤ dn x ∧ dn x ≤ 9999 ∧ x.1.toInt.natAbs ≤ 9999 ∧ x.2.2.natAbs ≤ 2000
def LOk (L : List Arm) : Prop := (∀ x ∈ L, AOk x) ∧ prd L ≤ 9999 * 99 ^ 4
def TLr : Nat → List Arm → Nat
  | t, [] => t
  | t, x :: L => TLr (Nat.lcm t (dn x)) L
theorem lN_toI {a : Nat} (h : a < 2 ^ 63) : (lN a).toInt = (a : Int) := lg_ofNat_toInt h
theorem lN_div {a b : Nat} (ha : a < 2 ^ 63) (hb : 0 < b) (hb2 : b < 2 ^ 63) : lN a / lN b = lN (a / b) := by
  apply Int64.toInt_inj.mp
  have h2 : a / b ≤ a := Nat.div_le_self _ _
  rw [Int64.toInt_div, lN_toI ha, lN_toI hb2, lN_toI (by omega), Int.tdiv_eq_ediv_of_nonneg (by omega)]
  have h3 : (a : Int) / (b : Int) = ((a / b : Nat) : Int) := rfl
  rw [h3]
  generalize a / b = q at h2 ⊢
  exact Int.bmod_eq_of_le_mul_two (by omega) (by omega)
theorem prd_pos : ∀ {L : List Arm}, (∀ x ∈ L, AOk x) → 1 ≤ prd L
  | [], _ => Nat.le_refl _
  | x :: L, h => by
    have h1 := (h x List.mem_cons_self).2.1
    have h2 := prd_pos (L := L) (fun y hy => h y (List.mem_cons_of_mem _ hy))
    exact Nat.mul_le_mul h1 h2
theorem flt_prd : ∀ {L : List Arm}, (∀ x ∈ L, AOk x) → prd (fltA L) ≤ prd L
  | [], _ => Nat.le_refl _
  | x :: L, h => by
    have h1 := (h x List.mem_cons_self).2.1
    have h2 := flt_prd (L := L) (fun y hy => h y (List.mem_cons_of_mem _ hy))
    unfold fltA at h2 ⊢
    rw [List.filter_cons]
    split
    · exact Nat.mul_le_mul_left _ h2
    · refine Nat.le_trans h2 ?_
      show prd L ≤ dn x * prd L
      exact Nat.le_mul_of_pos_left _ h1
theorem LOk.flt {L : List Arm} (h : LOk L) : LOk (fltA L) := ⟨fun x hx => h.1 x (List.mem_filter.mp hx).1, Nat.le_trans (flt_prd h.1) h.2⟩
theorem flt_len (L : List Arm) : (fltA L).length ≤ L.length := List.length_filter_le _ _
theorem getD_mem {L : List Arm} {i : Nat} (h : i < L.length) : L.getD i arD ∈ L := by
  rw [List.getD_eq_getElem?_getD, List.getElem?_eq_getElem h]
  exact List.getElem_mem h
theorem drop_c {L : List Arm} {i : Nat} (h : i < L.length) : L.drop i = L.getD i arD :: L.drop (i + 1) := by
  rw [List.getD_eq_getElem?_getD, List.getElem?_eq_getElem h]
  exact List.drop_eq_getElem_cons h
theorem take_c {L : List Arm} {i : Nat} (h : i < L.length) : L.take (i + 1) = L.take i ++ [L.getD i arD] := by
  rw [List.getD_eq_getElem?_getD, List.getElem?_eq_getElem h, List.take_succ, List.getElem?_eq_getElem h]
  rfl
theorem flt_s {L : List Arm} {i : Nat} (h : i < L.length) : fltA (L.take (i + 1)) = if (L.getD i arD).2.2 = 0 then fltA (L.take i) else fltA (L.take i) ++ [L.getD i arD] := by
  unfold fltA
  rw [take_c h, List.filter_append]
  by_cases e : (L.getD i arD).2.2 = 0
  · rw [if_pos e]
    have : List.filter (fun x : Arm => decide (x.2.2 ≠ 0)) [L.getD i arD] = [] := by
      rw [List.filter_cons, if_neg (by rw [decide_eq_true_iff]; exact fun z => z e)]
      rfl
    rw [this, List.append_nil]
  · rw [if_neg e]
    congr 1
    rw [List.filter_cons, if_pos (by rw [decide_eq_true_iff]; exact e)]
    rfl
theorem of0 {z : Int} (h : z.natAbs ≤ 2000) : Int64.ofInt z = 0 ↔ z = 0 := by
  constructor
  · intro q
    have := congrArg Int64.toInt q
    rw [Int64.toInt_ofInt_of_le (by omega) (by omega)] at this
    exact this
  · intro q; rw [q]; rfl
theorem of0i {z : Int} (h : z.natAbs ≤ 2000) : Int32.ofInt z = 0 ↔ z = 0 := by
  constructor
  · intro q
    have := congrArg Int32.toInt q
    rw [Int32.toInt_ofInt_of_le (by omega) (by omega)] at this
    exact this
  · intro q; rw [q]; rfl
/-- the winding of arm k -/
def wnd (L : List Arm) (T k : Nat) : Int64 := lN (T / dn (L.getD k arD)) * (L.getD k arD).1
def swp (g : Nat → Nat) (j i : Nat) : Nat := if i = j then g (j + 1) else if i = j + 1 then g j else g i
def insW (W : Nat → Int64) : Nat → (Nat → Nat) → (Nat → Nat)
  | 0, g => g
  | j + 1, g => if W (g (j + 1)) < W (g j) then insW W j (swp g j) else g
def srtW (W : Nat → Int64) : Nat → (Nat → Nat)
  | 0 => id
  | m + 1 => insW W m (srtW W m)
section ARMS2
variable {X : ab_X} {l : Launch}
theorem k_dropEmpty (L : List Arm) (w : ab_W) (n : Nat) {tc : Int64} {u d s : Nat → Int64} (hL : L.length ≤ 5) (hok : LOk L) (h12 : w 12 = oPA (nI L.length) tc) (h13 : w 13 = aJ 5 u) (h14 : w 14 = aJ 5 d) (h15 : w 15 = aJ 5 s) (hp : paI L u d s) :
    ab_C X l i_PA_dropEmpty [.ref 12] w n 0 0 (qV fun w' n' => n = n' ∧ Fr (fun k => 12 ≤ k ∧ k ≤ 15) w w' ∧ w' 12 = oPA (nI (fltA L).length) tc ∧ ∃ u d s, w' 13 = aJ 5 u ∧ w' 14 = aJ 5 d ∧ w' 15 = aJ 5 s ∧ paI (fltA L) u d s) := by
  have loop : ∀ i, i ≤ L.length → ∀ w3 u d s, Fr (fun k => 12 ≤ k ∧ k ≤ 15) w w3 → w3 12 = oPA (nI L.length) tc → w3 13 = aJ 5 u → w3 14 = aJ 5 d → w3 15 = aJ 5 s → paI (fltA (L.take i)) u d s → (∀ j, i ≤ j → j < L.length → u j = (L.getD j arD).1 ∧ d j = (L.getD j arD).2.1 ∧ s j = Int64.ofInt (L.getD j arD).2.2) → ab_Ev X l i_PA_dropEmpty 4 [some (.ref 12), some (.int (nI (fltA (L.take i)).length)), some (.int (nI i))] [] w3 n 0 0 (qV fun w' n' => n = n' ∧ Fr (fun k => 12 ≤ k ∧ k ≤ 15) w w' ∧ w' 12 = oPA (nI (fltA L).length) tc ∧ ∃ u d s, w' 13 = aJ 5 u ∧ w' 14 = aJ 5 d ∧ w' 15 = aJ 5 s ∧ paI (fltA L) u d s) := by
    refine ab_up L.length ?_ (fun i hi ih => ?_)
    · intro w3 u d s hf k12 k13 k14 k15 q1 q2
      rw [List.take_length] at q1 ⊢
      obtain ⟨w3, rfl⟩ := va_ex k12
      refine ab_sound ok_49 [4] 80 ?_
      refine And.intro (fun _ => ?_) (fun h_9 => absurd (nI_le (Nat.le_refl _) (by omega)) h_9)
      exact ⟨rfl, rfl, hf.up (by omega), rfl, u, d, s, (va_un (by omega)).trans k13, (va_un (by omega)).trans k14, (va_un (by omega)).trans k15, q1⟩
    · intro w3 u d s hf k12 k13 k14 k15 q1 q2
      have hle : (fltA (L.take i)).length ≤ i := by
        have h1 := flt_len (L.take i)
        rw [List.length_take] at h1
        omega
      obtain ⟨r1, r2, r3⟩ := q2 i (Nat.le_refl _) hi
      have hx := hok.1 _ (getD_mem hi)
      have hs := flt_s hi
      have happ := q1.app (L.getD i arD).1 (L.getD i arD).2.1 (L.getD i arD).2.2
      generalize hxe : L.getD i arD = x at *
      obtain ⟨w3, rfl⟩ := va_ex4 k12 k13 k14 k15
      refine ab_sound ok_49 [4] 80 ?_
      refine And.intro (fun h_9 => absurd h_9 (nI_ge hi (by omega))) (fun _ => ?_)
      refine And.intro (vp_in_nI (by omega) (by omega)) ?_
      rw [nI_clamp (by omega), r3]
      refine And.intro (fun e1 => ?_) (fun e1 => ?_)
      · rw [lz_eq, of0 hx.2.2.2.2] at e1
        rw [if_pos e1] at hs
        rw [hs] at ih
        exact ab_ev_of (ih _ u d s hf rfl rfl rfl rfl q1 (fun j h1 h2 => q2 j (by omega) h2)) (by rw [nI_s i]; rfl) rfl rfl
      · rw [lz_eq, of0 hx.2.2.2.2] at e1
        rw [if_neg e1] at hs
        rw [hs] at ih
        generalize hle2 : (fltA (L.take i)).length = c at *
        have hl2 : (fltA (L.take i) ++ [x]).length = c + 1 := by rw [List.length_append, hle2]; rfl
        rw [hl2] at ih
        refine And.intro (vp_in_nI (by omega) (by omega)) ?_
        refine And.intro (vp_in_nI (by omega) (by omega)) ?_
        refine And.intro (vp_in_nI (by omega) (by omega)) ?_
        refine And.intro (vp_in_nI (by omega) (by omega)) ?_
        refine And.intro (vp_in_nI (by omega) (by omega)) ?_
        refine And.intro (vp_in_nI (by omega) (by omega)) ?_
        rw [nI_clamp (by omega), nI_clamp (by omega), r1, r2, r3]
        refine ab_ev_of (ih _ _ _ _ (((hf.up (by omega)).up (by omega)).up (by omega)) rfl rfl rfl rfl happ (fun j h1 h2 => ?_)) (by rw [nI_s i, nI_s c]; rfl) rfl rfl
        rw [vp_ne (by omega), vp_ne (by omega), vp_ne (by omega)]
        exact q2 j (by omega) h2
  refine ab_mqV cd_49 om_49 rfl rfl (ab_sound ok_49 [4] 80 ?_)
  exact ab_ev_of (loop 0 (by omega) w u d s Fr.refl h12 h13 h14 h15 (fun i hi => absurd hi (Nat.not_lt_zero _)) (fun j _ hj => hp j hj)) rfl rfl rfl
theorem k_findWindings (L : List Arm) (w : ab_W) (n : Nat) {u d s f : Nat → Int64} (hL : L.length ≤ 5) (hok : LOk L) (h12 : w 12 = oPA (nI L.length) (lN 1)) (h13 : w 13 = aJ 5 u) (h14 : w 14 = aJ 5 d) (h16 : w 16 = aJ 5 f) (hp : paI L u d s) :
    ab_C X l i_PA_findWindings [.ref 12] w n 0 0 (qV fun w' n' => n = n' ∧ Fr (fun k => k = 12 ∨ k = 16) w w' ∧ w' 12 = oPA (nI L.length) (lN (TLr 1 L)) ∧ ∃ f, w' 16 = aJ 5 f ∧ ∀ k, k < L.length → f k = wnd L (TLr 1 L) k) := by
  generalize hT : TLr 1 L = T
  have snd : 1 ≤ T → T ≤ 9999 * 99 ^ 4 → ∀ i, i ≤ L.length → ∀ w3 f, Fr (fun k => k = 12 ∨ k = 16) w w3 → w3 12 = oPA (nI L.length) (lN T) → w3 16 = aJ 5 f → (∀ k, k < i → f k = wnd L T k) → ∀ l2 l3 : Option Value, ab_Ev X l i_PA_findWindings 59 [some (.ref 12), some (.int (nI i)), l2, l3] [] w3 n 0 0 (qV fun w' n' => n = n' ∧ Fr (fun k => k = 12 ∨ k = 16) w w' ∧ w' 12 = oPA (nI L.length) (lN T) ∧ ∃ f, w' 16 = aJ 5 f ∧ ∀ k, k < L.length → f k = wnd L T k) := by
    intro hT1 hT2
    refine ab_up L.length ?_ (fun i hi ih => ?_)
    · intro w3 f hf k12 k16 q l2 l3
      obtain ⟨w3, rfl⟩ := va_ex k12
      refine ab_sound ok_50 [59] 80 ?_
      refine And.intro (fun _ => ?_) (fun h_9 => absurd (nI_le (Nat.le_refl _) (by omega)) h_9)
      exact ⟨rfl, rfl, hf, rfl, f, k16, q⟩
    · intro w3 f hf k12 k16 q l2 l3
      have k13 := hf.get h13 (by omega)
      have k14 := hf.get h14 (by omega)
      obtain ⟨r1, r2, r3⟩ := hp i hi
      obtain ⟨x1, x2, x3, x4, x5⟩ := hok.1 _ (getD_mem hi)
      rw [x1] at r2
      have hw : wnd L T i = lN (T / dn (L.getD i arD)) * (L.getD i arD).1 := rfl
      generalize hxe : L.getD i arD = x at *
      obtain ⟨w3, rfl⟩ := va_ex4 k12 k13 k14 k16
      refine ab_sound ok_50 [59] 80 ?_
      refine And.intro (fun h_9 => absurd h_9 (nI_ge hi (by omega))) (fun _ => ?_)
      refine And.intro (vp_in_nI (by omega) (by omega)) ?_
      rw [nI_clamp (by omega), r2]
      have hge : lN 1 ≤ lN (dn x) := (lN_le (by omega) (by omega)).mpr x2
      refine And.intro (fun _ => ?_) (fun h_9 => absurd (lg_ge0.mpr hge) h_9)
      refine And.intro (vp_in_nI (by omega) (by omega)) ?_
      rw [nI_clamp (by omega), r2]
      have hn0 : ¬ lN (dn x) = 0 := fun z => by have := (lN_eq (b := 0) (by omega) (by omega)).mp z; omega
      refine And.intro (hn0) ?_
      refine And.intro (vp_in_nI (by omega) (by omega)) ?_
      refine And.intro (vp_in_nI (by omega) (by omega)) ?_
      rw [nI_clamp (by omega), r1, lN_div (by omega) (by omega) (by omega), ← hw]
      refine ab_ev_of (ih _ _ (hf.up (by omega)) rfl rfl (fun k hk => ?_) l2 l3) (by rw [nI_s i]; rfl) rfl rfl
      by_cases e : k = i
      · rw [e, vp_at]
      · rw [vp_ne e]; exact q k (by omega)
  have fst_ : ∀ i, i ≤ L.length → ∀ w3 t, Fr (fun k => k = 12) w w3 → w3 12 = oPA (nI L.length) (lN t) → 1 ≤ t → TLr t (L.drop i) = T → t * prd (L.drop i) ≤ 9999 * 99 ^ 4 → ∀ l2 l3 : Option Value, ab_Ev X l i_PA_findWindings 2 [some (.ref 12), some (.int (nI i)), l2, l3] [] w3 n 0 0 (qV fun w' n' => n = n' ∧ Fr (fun k => k = 12 ∨ k = 16) w w' ∧ w' 12 = oPA (nI L.length) (lN T) ∧ ∃ f, w' 16 = aJ 5 f ∧ ∀ k, k < L.length → f k = wnd L T k) := by
    refine ab_up L.length ?_ (fun i hi ih => ?_)
    · intro w3 t hf k12 ht1 ht2 ht3 l2 l3
      rw [List.drop_length] at ht2 ht3
      have hTb : t ≤ 9999 * 99 ^ 4 := by
        have h9 : t * 1 ≤ 9999 * 99 ^ 4 := ht3
        omega
      have ht2 : t = T := ht2
      rw [ht2] at k12 ht1 hTb
      have sn := snd ht1 hTb 0 (by omega) w3 f (hf.mono (fun k hk => Or.inl hk)) k12 (hf.get h16 (by omega)) (fun k hk => by omega) l2 l3
      obtain ⟨w3, rfl⟩ := va_ex k12
      refine ab_sound ok_50 [2, 59] 80 ?_
      refine And.intro (fun _ => ?_) (fun h_9 => absurd (nI_le (Nat.le_refl _) (by omega)) h_9)
      exact ab_ev_of sn rfl rfl rfl
    · intro w3 t hf k12 ht1 ht2 ht3 l2 l3
      have k14 := hf.get h14 (by omega)
      obtain ⟨r1, r2, r3⟩ := hp i hi
      obtain ⟨x1, x2, x3, x4, x5⟩ := hok.1 _ (getD_mem hi)
      rw [x1] at r2
      rw [drop_c hi] at ht2 ht3
      generalize hxe : L.getD i arD = x at *
      have ht2 : TLr (Nat.lcm t (dn x)) (L.drop (i + 1)) = T := ht2
      have ht3 : t * (dn x * prd (L.drop (i + 1))) ≤ 9999 * 99 ^ 4 := ht3
      have hpp : 1 ≤ prd (L.drop (i + 1)) := prd_pos (fun y hy => hok.1 y (List.mem_of_mem_drop hy))
      have hlt : t ≤ 9999 * 99 ^ 4 := Nat.le_trans (Nat.le_mul_of_pos_right t (Nat.mul_pos x2 hpp)) ht3
      have hg1 : 1 ≤ Nat.gcd t (dn x) := Nat.gcd_pos_of_pos_left _ ht1
      have hg2 : Nat.gcd t (dn x) ≤ dn x := Nat.gcd_le_right _ x2
      have hlcm : Nat.lcm t (dn x) = t * (dn x / Nat.gcd t (dn x)) := by
        unfold Nat.lcm
        rw [Nat.mul_div_assoc _ (Nat.gcd_dvd_right t (dn x))]
      have hl1 : 1 ≤ Nat.lcm t (dn x) := Nat.lcm_pos ht1 x2
      have hl2 : Nat.lcm t (dn x) ≤ t * dn x := by
        rw [hlcm]
        exact Nat.mul_le_mul_left _ (Nat.div_le_self _ _)
      have ht4 : Nat.lcm t (dn x) * prd (L.drop (i + 1)) ≤ 9999 * 99 ^ 4 := by
        refine Nat.le_trans (Nat.mul_le_mul_right _ hl2) ?_
        rw [Nat.mul_assoc]
        exact ht3
      have ih2 := fun w5 q1 q2 => ih w5 (Nat.lcm t (dn x)) q1 q2 hl1 ht2 ht4
      rw [hlcm] at ih2
      obtain ⟨w3, rfl⟩ := va_ex2 k12 k14
      refine ab_sound ok_50 [2] 80 ?_
      refine And.intro (fun h_9 => absurd h_9 (nI_ge hi (by omega))) (fun _ => ?_)
      refine And.intro (vp_in_nI (by omega) (by omega)) ?_
      rw [nI_clamp (by omega), r2]
      (refine Exists.intro 0 ?_; refine ⟨0, _, Nat.zero_le _, Nat.zero_le _, c_commonDivisor _ _ (by rw [lN_toI (by omega)]; omega) (by rw [lN_toI (by omega)]; omega) _ _, ?_⟩; refine ab_q1_elim ?_)
      rw [lN_toI (by omega), lN_toI (by omega), Int.natAbs_natCast, Int.natAbs_natCast]
      generalize Nat.gcd t (dn x) = g at *
      have hge : lN 1 ≤ lN g := (lN_le (by omega) (by omega)).mpr hg1
      refine And.intro (fun _ => ?_) (fun h_9 => absurd (lg_ge0.mpr hge) h_9)
      refine And.intro (vp_in_nI (by omega) (by omega)) ?_
      rw [nI_clamp (by omega), r2]
      have hn0 : ¬ lN g = 0 := fun z => by have := (lN_eq (b := 0) (by omega) (by omega)).mp z; omega
      refine And.intro (hn0) ?_
      rw [lN_div (by omega) (by omega) (by omega)]
      refine ab_ev_of (ih2 _ (hf.up (by omega)) ?_ (some (.long (lN g))) none) (by rw [nI_s i]; rfl) rfl rfl
      show oPA _ (lN t * lN (dn x / g)) = _
      rw [lN_mul]
  refine ab_mqV cd_50 om_50 rfl rfl (ab_sound ok_50 [2] 80 ?_)
  refine ab_ev_of (fst_ 0 (by omega) w 1 Fr.refl h12 (Nat.le_refl _) hT ?_ none none) rfl rfl rfl
  rw [Nat.one_mul]
  exact hok.2
theorem k_sort (m : Nat) (W S : Nat → Int64) (w : ab_W) (n : Nat) {tc : Int64} {f g : Nat → Int64} (hm : m ≤ 5) (h12 : w 12 = oPA (nI m) tc) (h15 : w 15 = aJ 5 g) (h16 : w 16 = aJ 5 f) (hf : ∀ k, k < m → f k = W k) (hg : ∀ k, k < m → g k = S k) :
    ab_C X l i_PA_sortByWinding [.ref 12] w n 0 0 (qV fun w' n' => n = n' ∧ Fr (fun k => k = 15 ∨ k = 16) w w' ∧ ∃ f g, w' 16 = aJ 5 f ∧ w' 15 = aJ 5 g ∧ (∀ k, k < m → f k = W (srtW W m k)) ∧ ∀ k, k < m → g k = S (srtW W m k)) := by
  have loop : ∀ i, i ≤ m → 1 ≤ i → ∀ w3 f g, Fr (fun k => k = 15 ∨ k = 16) w w3 → w3 16 = aJ 5 f → w3 15 = aJ 5 g → (∀ k, k < m → f k = W (srtW W i k)) → (∀ k, k < m → g k = S (srtW W i k)) → ∀ l2 l3 l4 l5 l6 : Option Value, ab_Ev X l i_PA_sortByWinding 2 [some (.ref 12), some (.int (nI i)), l2, l3, l4, l5, l6] [] w3 n 0 0 (qV fun w' n' => n = n' ∧ Fr (fun k => k = 15 ∨ k = 16) w w' ∧ ∃ f g, w' 16 = aJ 5 f ∧ w' 15 = aJ 5 g ∧ (∀ k, k < m → f k = W (srtW W m k)) ∧ ∀ k, k < m → g k = S (srtW W m k)) := by
    refine ab_up m ?_ (fun i hi ih => ?_)
    · intro _ w3 f g hfr k16 k15 q1 q2 l2 l3 l4 l5 l6
      have k12 := hfr.get h12 (by omega)
      obtain ⟨w3, rfl⟩ := va_ex k12
      refine ab_sound ok_51 [2] 80 ?_
      refine And.intro (fun _ => ?_) (fun h_9 => absurd (nI_le (Nat.le_refl _) (by omega)) h_9)
      exact ⟨rfl, rfl, hfr, f, g, k16, k15, q1, q2⟩
    · intro hi1 w3 f g hfr k16 k15 q1 q2 l2 l3 l4 l5 l6
      have inn : ∀ j, j ≤ i → ∀ w4 f g sg, Fr (fun k => k = 15 ∨ k = 16) w w4 → w4 16 = aJ 5 f → w4 15 = aJ 5 g → (∀ k, k < m → f k = W (sg k)) → (∀ k, k < m → g k = S (sg k)) → insW W j sg = srtW W (i + 1) → ∀ l3 l4 l5 l6 : Option Value, ab_Ev X l i_PA_sortByWinding 12 [some (.ref 12), some (.int (nI i)), some (.int (nI j)), l3, l4, l5, l6] [] w4 n 0 0 (qV fun w' n' => n = n' ∧ Fr (fun k => k = 15 ∨ k = 16) w w' ∧ ∃ f g, w' 16 = aJ 5 f ∧ w' 15 = aJ 5 g ∧ (∀ k, k < m → f k = W (srtW W m k)) ∧ ∀ k, k < m → g k = S (srtW W m k)) := by
        intro j
        induction j with
        | zero =>
          intro _ w4 f g sg hfr k16 k15 p1 p2 p3 l3 l4 l5 l6
          have p3 : sg = srtW W (i + 1) := p3
          subst p3
          refine ab_sound ok_51 [2] 80 ?_
          refine And.intro (fun _ => ?_) (fun h_9 => absurd ((by decide)) h_9)
          exact ab_ev_of (ih (by omega) w4 f g hfr k16 k15 p1 p2 (some (.int (nI 0))) l3 l4 l5 l6) (by rw [nI_s i]; rfl) rfl rfl
        | succ j jh =>
          intro hj w4 f g sg hfr k16 k15 p1 p2 p3 l3 l4 l5 l6
          have k12 := hfr.get h12 (by omega)
          have hs1 : nI (j + 1) - nI 1 = nI j := by rw [pk_sub (by omega)]; rfl
          have p3 : (if W (sg (j + 1)) < W (sg j) then insW W j (swp sg j) else sg) = srtW W (i + 1) := p3
          have f1 := p1 (j + 1) (by omega)
          have f0 := p1 j (by omega)
          have g1 := p2 (j + 1) (by omega)
          have g0 := p2 j (by omega)
          have stopc := fun (e : ¬ W (sg (j + 1)) < W (sg j)) => (by rw [if_neg e] at p3; exact p3 : sg = srtW W (i + 1))
          obtain ⟨w4, rfl⟩ := va_ex3 k12 k15 k16
          refine ab_sound ok_51 [2, 12] 100 ?_
          refine And.intro (fun h_9 => absurd h_9 ((by have := nI_ge (show 0 < j + 1 by omega) (show j + 1 < 2 ^ 31 by omega); exact this))) (fun _ => ?_)
          refine And.intro (vp_in_nI (by omega) (by omega)) ?_
          refine And.intro ((by rw [hs1]; exact vp_in_nI (by omega) (by omega))) ?_
          rw [hs1, nI_clamp (by omega), nI_clamp (by omega), f1, f0]
          refine And.intro (fun e1 => ?_) (fun e1 => ?_)
          · have e1 := lg_ge0.mp e1
            have hz := stopc (fun z => by rw [i64_lt] at z; rw [i64_le] at e1; omega)
            subst hz
            exact ab_ev_of (ih (by omega) _ f g hfr rfl rfl p1 p2 (some (.int (nI (j + 1)))) l3 l4 l5 l6) (by rw [nI_s i]; rfl) rfl rfl
          · have e1 : W (sg (j + 1)) < W (sg j) := by
              have h9 : ¬ W (sg j) ≤ W (sg (j + 1)) := fun z => e1 (lg_ge0.mpr z)
              rw [i64_lt]
              rw [i64_le] at h9
              omega
            rw [if_pos e1] at p3
            refine And.intro (vp_in_nI (by omega) (by omega)) ?_
            refine And.intro ((by rw [hs1]; exact vp_in_nI (by omega) (by omega))) ?_
            refine And.intro (vp_in_nI (by omega) (by omega)) ?_
            refine And.intro ((by rw [hs1]; exact vp_in_nI (by omega) (by omega))) ?_
            refine And.intro (vp_in_nI (by omega) (by omega)) ?_
            refine And.intro ((by rw [hs1]; exact vp_in_nI (by omega) (by omega))) ?_
            refine And.intro (vp_in_nI (by omega) (by omega)) ?_
            refine And.intro ((by rw [hs1]; exact vp_in_nI (by omega) (by omega))) ?_
            rw [hs1, nI_clamp (show j + 1 < 2 ^ 31 by omega), nI_clamp (show j < 2 ^ 31 by omega)]
            refine ab_ev_of (jh (by omega) _ (vp_updL (vp_updL f (j + 1) (f j)) j (f (j + 1))) (vp_updL (vp_updL g (j + 1) (g j)) j (g (j + 1))) (swp sg j) ((((hfr.up (by omega)).up (by omega)).up (by omega)).up (by omega)) rfl rfl ?_ ?_ p3 (some (.long (f (j + 1)))) none (some (.long (g (j + 1)))) none) ?_ rfl rfl
            · intro k hk
              unfold swp
              by_cases a1 : k = j
              · rw [if_pos a1, a1, vp_at]; exact f1
              · rw [if_neg a1, vp_ne a1]
                by_cases a2 : k = j + 1
                · rw [if_pos a2, a2, vp_at]; exact f0
                · rw [if_neg a2, vp_ne a2]; exact p1 k hk
            · intro k hk
              unfold swp
              by_cases a1 : k = j
              · rw [if_pos a1, a1, vp_at]; exact g1
              · rw [if_neg a1, vp_ne a1]
                by_cases a2 : k = j + 1
                · rw [if_pos a2, a2, vp_at]; exact g0
                · rw [if_neg a2, vp_ne a2]; exact p2 k hk
            · show [_, _, some (Value.int (nI (j + 1) - nI 1)), _, _, _, _] = _
              rw [hs1]
      have k12 := hfr.get h12 (by omega)
      have inn := inn i (Nat.le_refl _) w3 f g (srtW W i) hfr k16 k15 q1 q2 rfl l3 l4 l5 l6
      obtain ⟨w3, rfl⟩ := va_ex k12
      refine ab_sound ok_51 [2, 12] 80 ?_
      refine And.intro (fun h_9 => absurd h_9 (nI_ge hi (by omega))) (fun _ => ?_)
      exact ab_ev_of inn rfl rfl rfl
  by_cases e : m = 0
  · subst e
    obtain ⟨w, rfl⟩ := va_ex h12
    refine ab_mqV cd_51 om_51 rfl rfl (ab_sound ok_51 [] 80 ?_)
    refine And.intro (fun _ => ?_) (fun h_9 => absurd ((by decide)) h_9)
    exact ⟨rfl, rfl, Fr.refl, f, g, h16, h15, fun k hk => by omega, fun k hk => by omega⟩
  · refine ab_mqV cd_51 om_51 rfl rfl (ab_sound ok_51 [2] 80 ?_)
    exact ab_ev_of (loop 1 (by omega) (Nat.le_refl _) w f g Fr.refl h16 h15 hf hg none none none none none) rfl rfl rfl
end ARMS2
