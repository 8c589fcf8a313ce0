/-! the model's pen answers -/
def mZ (w : ab_W) (n : Nat) (s : Nat → Int32) (wd : Int64) (t : Int32) (w' : ab_W) (n' : Nat) : Prop := n = n' ∧ Fr FZ w w' ∧ MA w' ∧ ∃ s' tn', w' 90 = oMod s' wd tn' ∧ Fr (fun k => k = 0 ∨ k = 33) s s' ∧ s' 0 = t
theorem upd_comm {s : Nat → Int32} {i j : Nat} {x y : Int32} (h : i ≠ j) : upd (upd s i x) j y = upd (upd s j y) i x := by
  funext k
  by_cases e1 : k = i
  · subst e1; rw [upd_ne h, upd_at, upd_at]
  · by_cases e2 : k = j
    · subst e2; rw [upd_at, upd_ne e1, upd_at]
    · rw [upd_ne e2, upd_ne e1, upd_ne e1, upd_ne e2]
section MPEN
variable {X : ab_X} {l : Launch}
theorem c_Mod_isPen_y (x : Int32) (p : Nat) (w : ab_W) (n : Nat) {s : Nat → Int32} {wd tn : Int64} {K : KA} {nr nw np : Nat} (hx : x = nI p) (hp : p < np) (h8 : np ≤ 8) (h90 : w 90 = oMod s wd tn) (hC : MKit w K nr nw np) : ab_C X l i_Mod_isPen_I [.ref 90, .int x] w n 0 0 (ab_q1 (some (.int (nI 1))) w n) := by
  subst hx
  obtain ⟨-, -, ⟨f, h95, e⟩, -⟩ := hC
  obtain ⟨w, rfl⟩ := va_ex2 h90 h95
  refine ab_metI cd_186 om_186 rfl (ab_sound ok_186 [] 50 ?_)
  refine And.intro (fun h_9 => absurd h_9 (nI_pos (by omega))) (fun _ => ?_)
  refine And.intro (vp_in_nI (by omega) (by omega)) ?_
  refine And.intro (fun h_9 => absurd h_9 ((by show ¬ f 0 ≤ nI p; rw [e]; exact nI_ge hp (by omega)))) (fun _ => ?_)
  exact ⟨rfl, rfl, rfl, rfl⟩
theorem c_Mod_isPen_n (x : Int32) (w : ab_W) (n : Nat) {s : Nat → Int32} {wd tn : Int64} {K : KA} {nr nw np : Nat} (hx : x < 0 ∨ nI np ≤ x) (h90 : w 90 = oMod s wd tn) (hC : MKit w K nr nw np) : ab_C X l i_Mod_isPen_I [.ref 90, .int x] w n 0 0 (ab_q1 (some (.int (nI 0))) w n) := by
  obtain ⟨-, -, ⟨f, h95, e⟩, -⟩ := hC
  obtain ⟨w, rfl⟩ := va_ex2 h90 h95
  refine ab_metI cd_186 om_186 rfl (ab_sound ok_186 [] 50 ?_)
  refine And.intro (fun e1 => ?_) (fun e1 => ?_)
  · exact ⟨rfl, rfl, rfl, rfl⟩
  · refine And.intro (vp_in_nI (by omega) (by omega)) ?_
    refine And.intro (fun _ => ?_) (fun h_9 => absurd ((by show f 0 ≤ x; rw [e]; exact hx.resolve_left e1)) h_9)
    exact ⟨rfl, rfl, rfl, rfl⟩
theorem MKit.up90 {w : ab_W} {K : KA} {nr nw np : Nat} {c : va_E} (h : MKit w K nr nw np) : MKit (va_up w 90 c) K nr nw np := h.fr (F := fun k => k = 90) (Fr.refl.up rfl) (fun k hk => by omega)
theorem MA.up90 {w : ab_W} {c : va_E} (h : MA w) : MA (va_up w 90 c) := h.fr (F := fun k => k = 90) (Fr.refl.up rfl) (fun k hk => by omega)
theorem Fr.us0 {s : Nat → Int32} {x : Int32} : Fr (fun k => k = 0 ∨ k = 33) s (upd s 0 x) := Fr.refl.us (.inl rfl)
theorem k_Mod_closes (x : Int32) (p : Nat) (w : ab_W) (n : Nat) {s : Nat → Int32} {wd tn : Int64} {K : KA} {nr nw np : Nat} (hx : x = nI p) (hp : p < np) (h90 : w 90 = oMod s wd tn) (hC : MKit w K nr nw np) (hK : KAok K nw np) (hA : MA w) : ab_C X l i_Mod_closes [.ref 90, .int x] w n 0 0 (qL (lN (PnT K p)) (mZ w n s wd (nI 0))) := by
  have hC0 := hC.up90 (c := oMod (upd s 0 (nI 0)) wd tn)
  have hA0 := hA.up90 (c := oMod (upd s 0 (nI 0)) wd tn)
  have f0 : Fr FZ w (va_up w 90 (oMod (upd s 0 (nI 0)) wd tn)) := Fr.refl.up (.inl rfl)
  have h900 : va_up w 90 (oMod (upd s 0 (nI 0)) wd tn) 90 = oMod (upd s 0 (nI 0)) wd tn := rfl
  obtain ⟨w9, rfl⟩ := va_ex h90
  refine ab_mqL cd_185 om_185 rfl rfl (ab_sound ok_185 [] 80 ?_)
  (refine Exists.intro 0 ?_; refine ⟨0, _, Nat.zero_le _, Nat.zero_le _, c_Mod_isPen_y _ p _ _ hx hp hK.1.2 h900 hC0, ?_⟩; refine ab_q1_elim ?_)
  refine And.intro (fun _ => ?_) (fun h_9 => absurd h_9 ((by decide)))
  (refine Exists.intro 0 ?_; refine ⟨0, _, Nat.zero_le _, Nat.zero_le _, k_takePen _ p _ _ hx hp hK h900 hC0 hA0, ?_⟩; rintro _ w1 _ ⟨rfl, rfl, f1, z90, hM⟩)
  have hm := hM.ma
  obtain ⟨w1, rfl⟩ := va_ex z90
  exact ⟨rfl, rfl, f0.trans f1, hm, _, _, rfl, Fr.us0.trans (Fr.refl.us (.inr rfl)), (upd_ne (by omega)).trans upd_at⟩
theorem k_Mod_arms (x : Int32) (p : Nat) (w : ab_W) (n : Nat) {s : Nat → Int32} {wd tn : Int64} {K : KA} {nr nw np : Nat} (hx : x = nI p) (hp : p < np) (h90 : w 90 = oMod s wd tn) (hC : MKit w K nr nw np) (hK : KAok K nw np) (hA : MA w) : ab_C X l i_Mod_arms [.ref 90, .int x] w n 0 0 (qI (nI (PnL K p).length) (mZ w n s wd (nI 0))) := by
  have hC0 := hC.up90 (c := oMod (upd s 0 (nI 0)) wd tn)
  have hA0 := hA.up90 (c := oMod (upd s 0 (nI 0)) wd tn)
  have f0 : Fr FZ w (va_up w 90 (oMod (upd s 0 (nI 0)) wd tn)) := Fr.refl.up (.inl rfl)
  have h900 : va_up w 90 (oMod (upd s 0 (nI 0)) wd tn) 90 = oMod (upd s 0 (nI 0)) wd tn := rfl
  obtain ⟨w9, rfl⟩ := va_ex h90
  refine ab_mqI cd_189 om_189 rfl (ab_sound ok_189 [] 80 ?_)
  (refine Exists.intro 0 ?_; refine ⟨0, _, Nat.zero_le _, Nat.zero_le _, c_Mod_isPen_y _ p _ _ hx hp hK.1.2 h900 hC0, ?_⟩; refine ab_q1_elim ?_)
  refine And.intro (fun _ => ?_) (fun h_9 => absurd h_9 ((by decide)))
  (refine Exists.intro 0 ?_; refine ⟨0, _, Nat.zero_le _, Nat.zero_le _, k_takePen _ p _ _ hx hp hK h900 hC0 hA0, ?_⟩; rintro _ w1 _ ⟨rfl, rfl, f1, z90, hM⟩)
  have hm := hM.ma
  obtain ⟨w1, rfl⟩ := va_ex z90
  exact ⟨rfl, rfl, f0.trans f1, hm, _, _, rfl, Fr.us0.trans (Fr.refl.us (.inr rfl)), (upd_ne (by omega)).trans upd_at⟩
theorem k_Mod_pen_n (x : Int32) (w : ab_W) (n : Nat) {s : Nat → Int32} {wd tn : Int64} {K : KA} {nr nw np : Nat} (hx : x < 0 ∨ nI np ≤ x) (h90 : w 90 = oMod s wd tn) (hC : MKit w K nr nw np) (hA : MA w) : ab_C X l i_Mod_closes [.ref 90, .int x] w n 0 0 (qL (-lN 1) (mZ w n s wd (nI 0))) ∧ ab_C X l i_Mod_lobes [.ref 90, .int x] w n 0 0 (qL (-lN 1) (mZ w n s wd (nI 0))) ∧ ab_C X l i_Mod_arms [.ref 90, .int x] w n 0 0 (qI (-nI 1) (mZ w n s wd (nI 0))) := by
  have hC0 := hC.up90 (c := oMod (upd s 0 (nI 0)) wd tn)
  have hA0 := hA.up90 (c := oMod (upd s 0 (nI 0)) wd tn)
  have f0 : Fr FZ w (va_up w 90 (oMod (upd s 0 (nI 0)) wd tn)) := Fr.refl.up (.inl rfl)
  have h900 : va_up w 90 (oMod (upd s 0 (nI 0)) wd tn) 90 = oMod (upd s 0 (nI 0)) wd tn := rfl
  obtain ⟨w9, rfl⟩ := va_ex h90
  have fin : mZ (va_up w9 90 (oMod s wd tn)) n s wd (nI 0) (va_up (va_up w9 90 (oMod s wd tn)) 90 (oMod (upd s 0 (nI 0)) wd tn)) n := ⟨rfl, f0, hA0, _, _, rfl, Fr.us0, upd_at⟩
  refine ⟨?_, ?_, ?_⟩
  · refine ab_mqL cd_185 om_185 rfl rfl (ab_sound ok_185 [] 80 ?_)
    (refine Exists.intro 0 ?_; refine ⟨0, _, Nat.zero_le _, Nat.zero_le _, c_Mod_isPen_n _ _ _ hx h900 hC0, ?_⟩; refine ab_q1_elim ?_)
    refine And.intro (fun h_9 => absurd (rfl) h_9) (fun _ => ?_)
    exact ⟨rfl, fin⟩
  · refine ab_mqL cd_191 om_191 rfl rfl (ab_sound ok_191 [] 80 ?_)
    (refine Exists.intro 0 ?_; refine ⟨0, _, Nat.zero_le _, Nat.zero_le _, c_Mod_isPen_n _ _ _ hx h900 hC0, ?_⟩; refine ab_q1_elim ?_)
    refine And.intro (fun h_9 => absurd (rfl) h_9) (fun _ => ?_)
    exact ⟨rfl, fin⟩
  · refine ab_mqI cd_189 om_189 rfl (ab_sound ok_189 [] 80 ?_)
    (refine Exists.intro 0 ?_; refine ⟨0, _, Nat.zero_le _, Nat.zero_le _, c_Mod_isPen_n _ _ _ hx h900 hC0, ?_⟩; refine ab_q1_elim ?_)
    refine And.intro (fun h_9 => absurd (rfl) h_9) (fun _ => ?_)
    exact ⟨rfl, fin⟩
theorem k_Mod_lobes (x : Int32) (p : Nat) (w : ab_W) (n : Nat) {s : Nat → Int32} {wd tn : Int64} {K : KA} {nr nw np : Nat} (hx : x = nI p) (hp : p < np) (h90 : w 90 = oMod s wd tn) (hC : MKit w K nr nw np) (hK : KAok K nw np) (hA : MA w) : ab_C X l i_Mod_lobes [.ref 90, .int x] w n 0 0 (qL (lN (PnB K p)) (mZ w n s wd (nI 0))) := by
  have hC0 := hC.up90 (c := oMod (upd s 0 (nI 0)) wd tn)
  have hA0 := hA.up90 (c := oMod (upd s 0 (nI 0)) wd tn)
  have f0 : Fr FZ w (va_up w 90 (oMod (upd s 0 (nI 0)) wd tn)) := Fr.refl.up (.inl rfl)
  have hl : (PnL K p).length ≤ 5 := Nat.le_trans (flt_len _) (pn_ok hK hp).2
  have hF : ∀ k, (PnF K p k).toInt.natAbs < 2 ^ 58 := fun k => pnW_bd hK hp _
  have hB : PnB K p = lbM (PnF K p) ((PnL K p).length - 1) := (lb_eq hF _).1
  have hd : ∀ a b : Int64, a.toInt.natAbs < 2 ^ 58 → b.toInt.natAbs < 2 ^ 58 → (a - b).toInt.natAbs < 2 ^ 60 := fun a b h1 h2 => by
    rw [Int64.toInt_sub, Int.bmod_eq_of_le_mul_two (by omega) (by omega)]
    omega
  rw [hB]
  generalize hmm : (PnL K p).length = m at *
  have h900 : va_up w 90 (oMod (upd s 0 (nI 0)) wd tn) 90 = oMod (upd s 0 (nI 0)) wd tn := rfl
  obtain ⟨w9, rfl⟩ := va_ex h90
  subst hx
  refine ab_mqL cd_191 om_191 rfl rfl (ab_sound ok_191 [27] 80 ?_)
  (refine Exists.intro 0 ?_; refine ⟨0, _, Nat.zero_le _, Nat.zero_le _, c_Mod_isPen_y _ p _ _ rfl hp hK.1.2 h900 hC0, ?_⟩; refine ab_q1_elim ?_)
  refine And.intro (fun _ => ?_) (fun h_9 => absurd h_9 ((by decide)))
  (refine Exists.intro 0 ?_; refine ⟨0, _, Nat.zero_le _, Nat.zero_le _, k_takePen _ p _ _ rfl hp hK h900 hC0 hA0, ?_⟩; rintro _ w1 _ ⟨rfl, rfl, f1, z90, hM⟩)
  have hm := hM.ma
  rw [hmm] at z90
  obtain ⟨-, -, ⟨f, h109, hf⟩, -⟩ := hM
  rw [hmm] at hf
  have hf : ∀ k, k < m → f k = PnF K p k := hf
  obtain ⟨w1, rfl⟩ := va_ex2 z90 h109
  have fin : mZ (va_up w9 90 (oMod s wd tn)) n s wd (nI 0) (va_up (va_up w1 109 (aJ 6 f)) 90 (oMod (upd (upd s 0 (nI 0)) 33 (nI m)) wd (lN (PnT K p)))) n := ⟨rfl, f0.trans f1, hm, _, _, rfl, Fr.us0.trans (Fr.refl.us (.inr rfl)), (upd_ne (by omega)).trans upd_at⟩
  have loop : ∀ i, i ≤ m → 1 ≤ i → ab_Ev X l i_Mod_lobes 27 [some (.ref 90), some (.int (nI p)), some (.long (lN (lbM (PnF K p) (i - 1)))), none, some (.int (nI i))] [] (va_up (va_up w1 109 (aJ 6 f)) 90 (oMod (upd (upd s 0 (nI 0)) 33 (nI m)) wd (lN (PnT K p)))) n 0 0 (qL (lN (lbM (PnF K p) (m - 1))) (mZ (va_up w9 90 (oMod s wd tn)) n s wd (nI 0))) := by
    refine ab_up m ?_ (fun i hi ih => ?_)
    · intro _
      refine ab_sound ok_191 [27] 80 ?_
      refine And.intro (fun _ => ?_) (fun h_9 => absurd ((by show upd (upd s 0 (nI 0)) 33 (nI m) 33 ≤ nI m; rw [upd_at]; exact nI_le (Nat.le_refl _) (by omega))) h_9)
      exact ⟨rfl, fin⟩
    · intro hi1
      obtain ⟨j, rfl⟩ : ∃ j, i = j + 1 := ⟨i - 1, by omega⟩
      have hb := (lb_le _ hF j).2
      have ih := ih (by omega)
      rw [show j + 1 + 1 - 1 = j + 1 by omega] at ih
      rw [show j + 1 - 1 = j by omega]
      refine ab_sound ok_191 [27] 80 ?_
      refine And.intro (fun h_9 => absurd h_9 ((by show ¬ upd (upd s 0 (nI 0)) 33 (nI m) 33 ≤ nI (j + 1); rw [upd_at]; exact nI_ge hi (by omega)))) (fun _ => ?_)
      refine And.intro (vp_in_nI (by omega) (by omega)) ?_
      refine And.intro (vp_in_nI (by omega) (by omega)) ?_
      rw [nI_clamp (by omega), nI_clamp (by omega), hf (j + 1) (by omega), hf 0 (by omega)]
      (refine Exists.intro 0 ?_; refine ⟨0, _, Nat.zero_le _, Nat.zero_le _, c_Mod_divisor _ _ (by rw [lN_toI (by omega)]; omega) (by have := hd _ _ (hF (j + 1)) (hF 0); exact Nat.lt_trans this (by omega)) _ _, ?_⟩; refine ab_q1_elim ?_)
      rw [lN_toI (by omega), Int.natAbs_natCast]
      exact ab_ev_of ih (by rw [nI_s (j + 1)]; rfl) rfl rfl
  by_cases e : m = 0
  · subst e
    refine ab_sound ok_191 [] 80 ?_
    refine And.intro (fun _ => ?_) (fun h_9 => absurd ((by show upd (upd s 0 (nI 0)) 33 (nI 0) 33 ≤ nI 1; rw [upd_at]; decide)) h_9)
    exact ⟨rfl, fin⟩
  · exact loop 1 (by omega) (Nat.le_refl _)
theorem k_Mod_arm (x y z : Int32) (p i : Nat) (e : Bool) (w : ab_W) (n : Nat) {s : Nat → Int32} {wd tn : Int64} {K : KA} {nr nw np : Nat} (hx : x = nI p) (hy : y = nI i) (hz : z = b01 e) (hp : p < np) (hi : i < (PnL K p).length) (h90 : w 90 = oMod s wd tn) (hC : MKit w K nr nw np) (hK : KAok K nw np) (hA : MA w) :
    ab_C X l i_Mod_arm [.ref 90, .int x, .int y, .int z] w n 0 0 (qL (if e = true then Int64.ofInt (PnS K p (PnO K p i)) else PnF K p i) (mZ w n s wd (nI 0))) := by
  have hl : (PnL K p).length ≤ 5 := Nat.le_trans (flt_len _) (pn_ok hK hp).2
  have hS := (pn_at hK hp (PnO K p i)).2
  subst hy
  have z01 : nI 0 ≤ z ∧ z ≤ nI 1 := by rw [hz]; cases e <;> decide
  have h900 : va_up w 90 (oMod (upd s 0 (nI 0)) wd tn) 90 = oMod (upd s 0 (nI 0)) wd tn := rfl
  obtain ⟨w9, rfl⟩ := va_ex h90
  refine ab_mqL cd_190 om_190 rfl rfl (ab_sound ok_190 [] 80 ?_)
  (refine Exists.intro 0 ?_; refine ⟨0, _, Nat.zero_le _, Nat.zero_le _, c_Mod_isPen_y _ p _ _ hx hp hK.1.2 rfl hC, ?_⟩; refine ab_q1_elim ?_)
  refine And.intro (fun h_9 => absurd h_9 ((by decide))) (fun _ => ?_)
  (refine Exists.intro 0 ?_; refine ⟨0, _, Nat.zero_le _, Nat.zero_le _, c_Mod_isIn _ _ _ _ _, ?_⟩; refine ab_q1_elim ?_)
  rw [if_pos z01]
  refine And.intro (fun _ => ?_) (fun h_9 => absurd h_9 ((by decide)))
  (refine Exists.intro 0 ?_; refine ⟨0, _, Nat.zero_le _, Nat.zero_le _, k_takePen _ p _ _ hx hp hK rfl hC hA, ?_⟩; rintro _ w1 _ ⟨rfl, rfl, f1, z90, hM⟩)
  have hm := hM.ma
  obtain ⟨-, -, ⟨f, h109, hf⟩, g, h110, hg⟩ := hM
  have fz : Fr FZ (va_up w9 90 (oMod s wd tn)) (va_up w1 90 (oMod (upd (upd s 33 (nI (PnL K p).length)) 0 (nI 0)) wd (lN (PnT K p)))) := f1.up (.inl rfl)
  have hm2 := hm.up90 (c := oMod (upd (upd s 33 (nI (PnL K p).length)) 0 (nI 0)) wd (lN (PnT K p)))
  have fs : Fr (fun k => k = 0 ∨ k = 33) s (upd (upd s 33 (nI (PnL K p).length)) 0 (nI 0)) := (Fr.refl.us (.inr rfl)).us (.inl rfl)
  obtain ⟨w1, rfl⟩ := va_ex3 z90 h109 h110
  have fin : mZ (va_up w9 90 (oMod s wd tn)) n s wd (nI 0) (va_up (va_up (va_up (va_up w1 110 (aI 6 g)) 109 (aJ 6 f)) 90 (oMod (upd s 33 (nI (PnL K p).length)) wd (lN (PnT K p)))) 90 (oMod (upd (upd s 33 (nI (PnL K p).length)) 0 (nI 0)) wd (lN (PnT K p)))) n := ⟨rfl, fz, hm2, _, _, rfl, fs, upd_at⟩
  refine And.intro (fun h_9 => absurd h_9 (nI_pos (by omega))) (fun _ => ?_)
  refine And.intro (fun _ => ?_) (fun h_9 => absurd ((by show nI i < upd s 33 (nI (PnL K p).length) 33; rw [upd_at]; exact nI_lt hi (by omega))) h_9)
  cases e with
  | false =>
    refine And.intro (fun h_9 => absurd (hz) h_9) (fun _ => ?_)
    refine And.intro (vp_in_nI (by omega) (by omega)) ?_
    rw [nI_clamp (by omega), hf i hi]
    exact ⟨rfl, fin⟩
  | true =>
    refine And.intro (fun _ => ?_) (fun h_9 => absurd h_9 ((by rw [hz]; decide)))
    refine And.intro (vp_in_nI (by omega) (by omega)) ?_
    rw [nI_clamp (by omega), hg i hi]
    exact ⟨by unfold PnS at *; exact congrArg (fun q => some (Value.long q)) (by rw [if_pos rfl, ← Int64.toInt_inj]; rw [Int32.toInt_toInt64, Int32.toInt_ofInt_of_le (by omega) (by omega), Int64.toInt_ofInt_of_le (by omega) (by omega)]), fin⟩
theorem k_Mod_arm_n (x y z : Int32) (w : ab_W) (n : Nat) {s : Nat → Int32} {wd tn : Int64} {K : KA} {nr nw np : Nat} (hb : (x < 0 ∨ nI np ≤ x) ∨ (z < 0 ∨ nI 2 ≤ z) ∨ ∃ p, p < np ∧ x = nI p ∧ (y < 0 ∨ nI (PnL K p).length ≤ y)) (h90 : w 90 = oMod s wd tn) (hC : MKit w K nr nw np) (hK : KAok K nw np) (hA : MA w) :
    ab_C X l i_Mod_arm [.ref 90, .int x, .int y, .int z] w n 0 0 (qL 0 (mZ w n s wd (nI 1))) := by
  have fz : Fr FZ w (va_up w 90 (oMod (upd s 0 (nI 1)) wd tn)) := Fr.refl.up (.inl rfl)
  have hm0 := hA.up90 (c := oMod (upd s 0 (nI 1)) wd tn)
  have h900 : va_up w 90 (oMod (upd s 0 (nI 0)) wd tn) 90 = oMod (upd s 0 (nI 0)) wd tn := rfl
  obtain ⟨w9, rfl⟩ := va_ex h90
  have fin : mZ (va_up w9 90 (oMod s wd tn)) n s wd (nI 1) (va_up (va_up w9 90 (oMod s wd tn)) 90 (oMod (upd s 0 (nI 1)) wd tn)) n := ⟨rfl, fz, hm0, _, _, rfl, Fr.us0, upd_at⟩
  refine ab_mqL cd_190 om_190 rfl rfl (ab_sound ok_190 [] 80 ?_)
  rcases in_or np (by have := hK.1.2; omega) x with ⟨p, hp, hx⟩ | hx
  · (refine Exists.intro 0 ?_; refine ⟨0, _, Nat.zero_le _, Nat.zero_le _, c_Mod_isPen_y _ p _ _ hx hp hK.1.2 rfl hC, ?_⟩; refine ab_q1_elim ?_)
    refine And.intro (fun h_9 => absurd h_9 ((by decide))) (fun _ => ?_)
    (refine Exists.intro 0 ?_; refine ⟨0, _, Nat.zero_le _, Nat.zero_le _, c_Mod_isIn _ _ _ _ _, ?_⟩; refine ab_q1_elim ?_)
    by_cases z01 : nI 0 ≤ z ∧ z ≤ nI 1
    · rw [if_pos z01]
      refine And.intro (fun _ => ?_) (fun h_9 => absurd h_9 ((by decide)))
      have hl : (PnL K p).length ≤ 5 := Nat.le_trans (flt_len _) (pn_ok hK hp).2
      have hy : y < 0 ∨ nI (PnL K p).length ≤ y := by
        rcases hb with hb | hb | ⟨p2, hp2, hx2, hb⟩
        · exact absurd hx (n_out (by have := hK.1.2; omega) hp hb)
        · exfalso
          obtain ⟨e1, e2⟩ := z01
          rw [i32_le] at e1 e2
          have q0 := nI_toInt (show 0 < 2 ^ 31 by omega)
          have q1 := nI_toInt (show 1 < 2 ^ 31 by omega)
          have q2 := nI_toInt (show 2 < 2 ^ 31 by omega)
          rcases hb with hb | hb
          · rw [i32_lt] at hb
            have : (0 : Int32).toInt = 0 := rfl
            omega
          · rw [i32_le] at hb
            omega
        · have h8 := hK.1.2
          have := (nI_eq (by omega) (by omega)).mp (hx.symm.trans hx2)
          subst this
          exact hb
      (refine Exists.intro 0 ?_; refine ⟨0, _, Nat.zero_le _, Nat.zero_le _, k_takePen _ p _ _ hx hp hK rfl hC hA, ?_⟩; rintro _ w1 _ ⟨rfl, rfl, f1, z90, hM⟩)
      have hm := hM.ma
      have fz2 : Fr FZ (va_up w9 90 (oMod s wd tn)) (va_up w1 90 (oMod (upd (upd s 33 (nI (PnL K p).length)) 0 (nI 1)) wd (lN (PnT K p)))) := f1.up (.inl rfl)
      have hm2 := hm.up90 (c := oMod (upd (upd s 33 (nI (PnL K p).length)) 0 (nI 1)) wd (lN (PnT K p)))
      have fs : Fr (fun k => k = 0 ∨ k = 33) s (upd (upd s 33 (nI (PnL K p).length)) 0 (nI 1)) := (Fr.refl.us (.inr rfl)).us (.inl rfl)
      obtain ⟨w1, rfl⟩ := va_ex z90
      refine And.intro (fun e3 => ?_) (fun e3 => ?_)
      · (refine Exists.intro 0 ?_; refine ⟨0, _, Nat.zero_le _, Nat.zero_le _, c_Mod_refuse _ _ rfl, ?_⟩; refine ab_q1_elim ?_)
        exact ⟨rfl, rfl, fz2, hm2, _, _, rfl, fs, upd_at⟩
      refine And.intro (fun h_9 => absurd h_9 ((by show ¬ y < upd s 33 (nI (PnL K p).length) 33; rw [upd_at]; have := hy.resolve_left e3; rw [i32_le] at this; rw [i32_lt]; omega))) (fun _ => ?_)
      (refine Exists.intro 0 ?_; refine ⟨0, _, Nat.zero_le _, Nat.zero_le _, c_Mod_refuse _ _ rfl, ?_⟩; refine ab_q1_elim ?_)
      exact ⟨rfl, rfl, fz2, hm2, _, _, rfl, fs, upd_at⟩
    · rw [if_neg z01]
      refine And.intro (fun h_9 => absurd (rfl) h_9) (fun _ => ?_)
      (refine Exists.intro 0 ?_; refine ⟨0, _, Nat.zero_le _, Nat.zero_le _, c_Mod_refuse _ _ rfl, ?_⟩; refine ab_q1_elim ?_)
      exact ⟨rfl, fin⟩
  · (refine Exists.intro 0 ?_; refine ⟨0, _, Nat.zero_le _, Nat.zero_le _, c_Mod_isPen_n _ _ _ hx rfl hC, ?_⟩; refine ab_q1_elim ?_)
    refine And.intro (fun _ => ?_) (fun h_9 => absurd (rfl) h_9)
    (refine Exists.intro 0 ?_; refine ⟨0, _, Nat.zero_le _, Nat.zero_le _, c_Mod_refuse _ _ rfl, ?_⟩; refine ab_q1_elim ?_)
    exact ⟨rfl, fin⟩
theorem k_Mod_spin (x y : Int32) (v : Nat) (e : Bool) (w : ab_W) (n : Nat) {s : Nat → Int32} {wd tn : Int64} {K : KA} {nr nw np : Nat} (hx : x = nI v) (hy : y = b01 e) (hv : v < nw) (h90 : w 90 = oMod s wd tn) (hC : MKit w K nr nw np) (hK : KAok K nw np) :
    ab_C X l i_Mod_spin [.ref 90, .int x, .int y] w n 0 0 (ab_q1 (some (.int (if e = true then kSl K v else kSu K v))) (va_up w 90 (oMod (upd s 0 (nI 0)) wd tn)) n) := by
  obtain ⟨-, ⟨f94, h94, g94⟩, -, -, -, -, -, -, -, ⟨f105, h105, g105⟩, f106, h106, g106⟩ := hC
  have hw := hK.1.1
  subst hx
  have z01 : nI 0 ≤ y ∧ y ≤ nI 1 := by rw [hy]; cases e <;> decide
  obtain ⟨w, rfl⟩ := va_ex4 h90 h94 h105 h106
  refine ab_metI cd_183 om_183 rfl (ab_sound ok_183 [] 80 ?_)
  refine And.intro (fun h_9 => absurd h_9 (nI_pos (by omega))) (fun _ => ?_)
  refine And.intro (vp_in_nI (by omega) (by omega)) ?_
  refine And.intro (fun h_9 => absurd h_9 ((by show ¬ f94 0 ≤ nI v; rw [g94]; exact nI_ge hv (by omega)))) (fun _ => ?_)
  (refine Exists.intro 0 ?_; refine ⟨0, _, Nat.zero_le _, Nat.zero_le _, c_Mod_isIn _ _ _ _ _, ?_⟩; refine ab_q1_elim ?_)
  rw [if_pos z01]
  refine And.intro (fun _ => ?_) (fun h_9 => absurd h_9 ((by decide)))
  cases e with
  | false =>
    refine And.intro (fun h_9 => absurd (hy) h_9) (fun _ => ?_)
    refine And.intro (vp_in_nI (by omega) (by omega)) ?_
    rw [nI_clamp (by omega), g105 v hv]
    exact ⟨by rw [Int32.toInt32_toInt64]; rfl, rfl, rfl⟩
  | true =>
    refine And.intro (fun _ => ?_) (fun h_9 => absurd h_9 ((by rw [hy]; decide)))
    refine And.intro (vp_in_nI (by omega) (by omega)) ?_
    rw [nI_clamp (by omega), g106 v hv]
    exact ⟨by rw [Int32.toInt32_toInt64]; rfl, rfl, rfl⟩
theorem k_Mod_spin_n (x y : Int32) (w : ab_W) (n : Nat) {s : Nat → Int32} {wd tn : Int64} {K : KA} {nr nw np : Nat} (hb : (x < 0 ∨ nI nw ≤ x) ∨ (y < 0 ∨ nI 2 ≤ y)) (h90 : w 90 = oMod s wd tn) (hC : MKit w K nr nw np) :
    ab_C X l i_Mod_spin [.ref 90, .int x, .int y] w n 0 0 (ab_q1 (some (.int (nI 0))) (va_up w 90 (oMod (upd s 0 (nI 1)) wd tn)) n) := by
  obtain ⟨-, ⟨f94, h94, g94⟩, -⟩ := hC
  obtain ⟨w, rfl⟩ := va_ex2 h90 h94
  have fin : ab_Ev X l i_Mod_spin 23 [some (.ref 90), some (.int x), some (.int y)] [] (va_up (va_up w 94 (aI 2 f94)) 90 (oMod s wd tn)) n 0 0 (ab_q1 (some (.int (nI 0))) (va_up (va_up (va_up w 94 (aI 2 f94)) 90 (oMod s wd tn)) 90 (oMod (upd s 0 (nI 1)) wd tn)) n) := by
    refine ab_sound ok_183 [] 80 ?_
    (refine Exists.intro 0 ?_; refine ⟨0, _, Nat.zero_le _, Nat.zero_le _, c_Mod_refuse _ _ rfl, ?_⟩; refine ab_q1_elim ?_)
    exact ⟨rfl, rfl, rfl⟩
  refine ab_metI cd_183 om_183 rfl (ab_sound ok_183 [23] 80 ?_)
  refine And.intro (fun e1 => ?_) (fun e1 => ?_)
  · exact fin
  refine And.intro (vp_in_nI (by omega) (by omega)) ?_
  refine And.intro (fun e2 => ?_) (fun e2 => ?_)
  · exact fin
  have e2 : ¬ f94 0 ≤ x := e2
  rw [g94] at e2
  (refine Exists.intro 0 ?_; refine ⟨0, _, Nat.zero_le _, Nat.zero_le _, c_Mod_isIn _ _ _ _ _, ?_⟩; refine ab_q1_elim ?_)
  have hq : ¬ (nI 0 ≤ y ∧ y ≤ nI 1) := fun z => by
    have h9 := hb.resolve_left (fun q => q.elim e1 e2)
    obtain ⟨z0, z1⟩ := z
    rw [i32_le] at z0 z1
    have q0 := nI_toInt (show 0 < 2 ^ 31 by omega)
    have q1 := nI_toInt (show 1 < 2 ^ 31 by omega)
    have q2 := nI_toInt (show 2 < 2 ^ 31 by omega)
    rcases h9 with h9 | h9
    · rw [i32_lt] at h9
      have : (0 : Int32).toInt = 0 := rfl
      omega
    · rw [i32_le] at h9
      omega
  rw [if_neg hq]
  refine And.intro (fun h_9 => absurd (rfl) h_9) (fun _ => ?_)
  exact fin
end MPEN
