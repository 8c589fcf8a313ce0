/-! a pen drawn -/
def drI (K : KA) (p N k j : Nat) : Nat := (md (PnF K p j).toInt N * k) % N
def drR (K : KA) (p N k m : Nat) : Nat → Int64 := gaF (drI K p N k) (fun j => Int64.ofInt (PnS K p (PnO K p j))) m Z0
def DrV (K : KA) (p N k i : Nat) : Int64 := redV N (drR K p N k (PnL K p).length) i
theorem drI_lt (K : KA) (p k j : Nat) {N : Nat} (h : 0 < N) : drI K p N k j < N := Nat.mod_lt _ h
theorem ga_bd (B : Nat) (ix : Nat → Nat) (v : Nat → Int64) : ∀ m, (∀ i, i < m → (v i).toInt.natAbs ≤ B) → m * B < 2 ^ 62 → ∀ j, (gaF ix v m Z0 j).toInt.natAbs ≤ m * B
  | 0, _, _ => fun j => by
    show ((0 : Int64).toInt).natAbs ≤ 0 * B
    have : (0 : Int64).toInt = 0 := rfl
    rw [this]
    omega
  | m + 1, h, hb => fun j => by
    rw [Nat.add_mul, Nat.one_mul] at hb ⊢
    have ih := ga_bd B ix v m (fun i hi => h i (by omega)) (by omega)
    have h2 := h m (by omega)
    unfold gaF vp_updL
    split
    · have h1 := ih (ix m)
      rw [Int64.toInt_add, Int.bmod_eq_of_le_mul_two (by omega) (by omega)]
      omega
    · have := ih j
      omega
theorem dr_sm {K : KA} {nw np p M : Nat} (hK : KAok K nw np) (hp : p < np) (hM : 3 ≤ M ∧ M ≤ 60) : Sm M (DrV K p M) := by
  intro k i hk hi
  have hl : (PnL K p).length ≤ 5 := Nat.le_trans (flt_len _) (pn_ok hK hp).2
  have hb : (DrV K p M k i).toInt.natAbs ≤ M * 20000 := by
    unfold DrV redV
    refine sumL_bd 20000 _ M (fun j hj => ?_) (by omega)
    have h1 : (drR K p M k (PnL K p).length j).toInt.natAbs ≤ 10000 := by
      refine Nat.le_trans (ga_bd 2000 _ _ (PnL K p).length (fun i _ => ?_) (by omega) j) (by omega)
      have := (pn_at hK hp (PnO K p i)).2
      unfold PnS
      rw [Int64.toInt_ofInt_of_le (by omega) (by omega)]
      exact this
    have h2 := pw_small M j i hM.2 hM.1 hj
    generalize drR K p M k (PnL K p).length j = a at *
    generalize pw M j i = b at *
    rw [Int64.toInt_mul, Int64.toInt_ofInt_of_le (by omega) (by omega)]
    have h3 : (a.toInt * b).natAbs ≤ 10000 * 2 := by
      rw [Int.natAbs_mul]
      exact Nat.mul_le_mul h1 (by omega)
    generalize a.toInt * b = z at *
    rw [Int.bmod_eq_of_le_mul_two (by omega) (by omega)]
    omega
  apply Int64.toInt_inj.mp
  rw [Int32.toInt_toInt64, Int64.toInt_toInt32, Int.bmod_eq_of_le_mul_two (by omega) (by omega)]
abbrev FV (k : Nat) : Prop := FRS k ∨ FG k
theorem oSh_inj {v p v2 p2 : Int32} {a b : Nat} (h : oSheet v p a = oSheet v2 p2 b) : a = b := by
  have h1 := Sum.inr.inj h
  have h2 : ([.int v, .int p, .ref a] : List Value) = [.int v2, .int p2, .ref b] := (Prod.mk.inj h1).2
  have h3 := (List.cons.inj (List.cons.inj (List.cons.inj h2).2).2).1
  exact Value.ref.inj h3
def Old (w : ab_W) (q : Nat) : Prop := ∃ v p a f, w q = oSheet v p a ∧ w a = aI 3480 f
theorem ShIs.old {w : ab_W} {q M b : Nat} {V : Nat → Nat → Int64} (h : ShIs w q M b V) : Old w q := by
  obtain ⟨h0, ⟨f, h1, -⟩, -⟩ := h
  exact ⟨_, _, b, f, h0, h1⟩
theorem Old.fr {F : Nat → Prop} {w w' : ab_W} {n t : Nat} {N : Nat → Nat} {R : Nat → Nat → Nat → Int64} (h : Old w (qp t)) (ht : t < 9) (hS : KSh w n N R) (hf : Fr F w w') (hF : ∀ k, F k → ¬ FS k) : Old w' (qp t) := by
  obtain ⟨v, p, a, f, h0, h1⟩ := h
  obtain ⟨b, -, -, -, h4, -, h6⟩ := hS
  obtain ⟨⟨v2, p2, k1, -⟩, -⟩ := h6 t ht
  have e := oSh_inj (h0.symm.trans k1)
  have h9 := (h4 t ht).2
  refine ⟨v, p, a, f, hf.get h0 (fun z => hF _ z (qp_FS ht).1), hf.get h1 (fun z => hF _ z ?_)⟩
  rw [e]
  unfold FS
  unfold qp at h9
  split at h9 <;> omega
def Bud (w : ab_W) (t mc ms : Nat) : Prop := (mc = 1 ∧ ms = 3480) ∨ Old w (qp t)
section DRAW0
variable {X : ab_X} {l : Launch}
theorem k_fillO (x z : Int32) (t M : Nat) (w : ab_W) (n : Nat) {mc ms : Nat} {N : Nat → Nat} {R : Nat → Nat → Nat → Int64} {g : Nat → Int64} {V : Nat → Nat → Int64} (ht : t < 9) (hx : x = nI M) (hz : z = nI (phi M)) (hM : 3 ≤ M ∧ M ≤ 60) (h : KSh w n N R) (h43 : w 43 = aJ 3480 g) (hg : Rw M g V) (hV : Sm M V) (hb : Bud w t mc ms) : ab_C X l i_Sheet_fill [.ref (qp t), .int x, .int z, .ref 43] w n mc ms (qV fun w' n' => n ≤ n' ∧ Fr FS w w' ∧ KSh w' n' (va_up N t M) (va_up R t V) ∧ ∃ b, ShIs w' (qp t) M b V) := by
  rcases hb with ⟨rfl, rfl⟩ | ⟨v, p, a, f, k1, k3⟩
  · exact k_fill x z t M w n ht hx hz hM h h43 hg hV
  subst hx hz
  obtain ⟨a2, hA⟩ := h
  have hA2 := hA
  obtain ⟨h0, -, h3, h4, h5, h6⟩ := hA2
  obtain ⟨⟨v2, p2, k5, -⟩, -, -⟩ := h6 t ht
  have e := oSh_inj (k1.symm.trans k5)
  subst e
  have hp := phi_le M hM.2
  have h9 := (h4 t ht).2
  have hq9 := qp_FS ht
  have hsm : ∀ k i, k < M → i < phi M → k * phi M + i < M * phi M := by
    intro k i hk hi
    have h1 : (k + 1) * phi M ≤ M * phi M := Nat.mul_le_mul_right _ (by omega)
    rw [Nat.add_mul] at h1
    omega
  have hq43 : qp t ≠ 43 := fun z => by have := hq9.1; unfold FS at this; omega
  have hqa : qp t ≠ a2 t := fun z => by
    unfold qp at h9 z
    split at h9 <;> split at z <;> omega
  have ha43 : a2 t ≠ 43 := fun z => by
    unfold qp at h9
    split at h9 <;> omega
  refine ab_C.weaken (c_Sheet_fill_old (qp t) (a2 t) M (phi M) w n hM.2 hp hqa hq43 ha43 k1 k3 h43) ?_
  rintro _ _ n' ⟨rfl, rfl, hn⟩
  subst hn
  have hS : ShIs (va_up (va_up w (qp t) (oSheet (nI M) (nI (phi M)) (a2 t))) (a2 t) (aI 3480 (flF (M * phi M) g f))) (qp t) M (a2 t) V := by
    refine ⟨(va_un hqa).trans va_us, ⟨_, va_us, fun k i hk hi => ?_⟩, ?_⟩
    · rw [flF_lt (hsm k i hk hi), hg k i hk hi, hV k i hk hi]
    · unfold shOk qp
      unfold qp at h9 hqa
      split at h9 <;> split at hqa <;> split <;> omega
  obtain ⟨k8, k9⟩ := hA.put (w' := _) (n' := n') ht hM (Or.inl ⟨rfl, rfl⟩) ((Fr.refl.up (Or.inl rfl)).up (Or.inr rfl)) hS
  exact ⟨rfl, Nat.le_refl _, k9, ⟨_, k8⟩, _, hS⟩
end DRAW0
section DRAW
variable {X : ab_X} {l : Launch}
theorem k_drawInto_44 (x z : Int32) (t p M : Nat) (w : ab_W) (n : Nat) {mc ms : Nat} {N : Nat → Nat} {R : Nat → Nat → Nat → Int64} {ks : Nat} {lf : Int32} {K : KA} {nr nw np : Nat} (hx : x = nI p) (hz : z = nI M) (hbd : Bud w t mc ms) (ht : t < 9) (hM : 3 ≤ M ∧ M ≤ 60) (hp : p < np) (hB : KB w n 44 ks lf N R) (hK : KK w 44 K nr nw np) :
    ab_C X l i_WP_drawInto [.ref 0, .ref (qp t), .int x, .int z] w n mc ms (qV fun w' n' => n ≤ n' ∧ Fr FV w w' ∧ KB w' n' 44 ks lf (va_up N t M) (va_up R t (DrV K p M)) ∧ KP w' ∧ KSums w' M ∧ ∃ b, ShIs w' (qp t) M b (DrV K p M)) := by
  subst hx hz
  obtain ⟨h0, hS0, hSh, g43, h43⟩ := hB
  obtain ⟨hC, hA, hP⟩ := hK
  have hl : (PnL K p).length ≤ 5 := Nat.le_trans (flt_len _) (pn_ok hA hp).2
  have hsm := dr_sm hA hp hM
  have hp1 := phi_ge M hM.2 hM.1
  have hp2 := phi_lt M hM.2 hM.1
  obtain ⟨⟨pa, pb, k12⟩, -⟩ := id hP
  obtain ⟨w9, rfl⟩ := va_ex2 h0 k12
  refine ab_mqV cd_118 om_118 rfl rfl (ab_sound ok_118 [23] 80 ?_)
  (refine Exists.intro 0 ?_; refine ⟨0, _, Nat.zero_le _, Nat.zero_le _, k_gather_44 _ p _ _ rfl hp hA hC hP, ?_⟩; rintro _ w1 _ ⟨rfl, rfl, f1, hG⟩)
  have z0 : w1 0 = oWP 44 ks lf := f1.get rfl (by omega)
  have hS1 : KS0 w1 := hS0.fr f1 (by omega) (by omega) (by omega)
  have hSh1 : KSh w1 n N R := hSh.fr f1 (fun k hk => ⟨by omega, by unfold FS; omega⟩) (Nat.le_refl _)
  have z43 := f1.get h43 (by omega)
  have hkp := hG.kp
  obtain ⟨v7, p7, z17⟩ := hS1.obj
  obtain ⟨g0, -, -, ⟨f15, g3, g6⟩, f16, g4, g5⟩ := hG
  obtain ⟨w1, rfl⟩ := va_ex2 z0 z17
  (refine Exists.intro 0 ?_; refine ⟨0, _, Nat.zero_le _, Nat.zero_le _, k_choose _ M _ _ rfl hM.2 hM.1 hS1, ?_⟩; rintro _ w2 _ ⟨rfl, rfl, e1, e2⟩)
  have y43 := e1.get z43 (by omega)
  have y0 := e1.get z0 (by omega)
  have y12 := e1.get g0 (by omega)
  have y15 := e1.get g3 (by omega)
  have y16 := e1.get g4 (by omega)
  have hSh2 : KSh w2 n N R := hSh1.fr e1 (fun k hk => ⟨by omega, by unfold FS; omega⟩) (Nat.le_refl _)
  have hbd2 : Bud w2 t mc ms := hbd.imp_right (fun q => (q.fr ht hSh f1 (fun k hk => by unfold FS; omega)).fr ht hSh1 e1 (fun k hk => by unfold FS; omega))
  have hkp2 : KP w2 := hkp.fr e1 (fun k hk => by omega)
  have f2 : Fr FV (va_up (va_up w9 12 (oPA pa pb)) 0 (oWP 44 ks lf)) w2 := f1.tr e1 (fun k hk => .inr hk) (fun k hk => .inl (.inl (by omega)))
  generalize hQ : (qV fun w' n' => n ≤ n' ∧ Fr FV (va_up (va_up w9 12 (oPA pa pb)) 0 (oWP 44 ks lf)) w' ∧ KB w' n' 44 ks lf (va_up N t M) (va_up R t (DrV K p M)) ∧ KP w' ∧ KSums w' M ∧ ∃ b, ShIs w' (qp t) M b (DrV K p M)) = Q
  have loop : ∀ k, k ≤ M → ∀ w3, Fr FR w2 w3 → KSums w3 M → ∀ g, w3 43 = aJ 3480 g → (∀ j i, j < k → i < phi M → g (j * phi M + i) = DrV K p M j i) → ∀ l5 l6 : Option Value, ab_Ev X l i_WP_drawInto 23 [some (.ref 0), some (.ref (qp t)), some (.int (nI p)), some (.int (nI M)), some (.int (nI k)), l5, l6] [] w3 n mc ms Q := by
    refine ab_up M ?_ (fun k hk ih => ?_)
    · intro w3 hf hs g hg hr l5 l6
      have hKs : KSh w3 n N R := hSh2.fr hf (fun k hk => ⟨by omega, FR_FS k hk⟩) (Nat.le_refl _)
      have x0 := hf.get y0 (by omega)
      have hkp3 : KP w3 := hkp2.fr hf (fun k hk => by omega)
      obtain ⟨-, c, f, s1, s2, s3, s4⟩ := id hs
      have hsh : ∃ v p a, w3 (qp t) = oSheet v p a := by
        obtain ⟨b, -, -, -, -, -, h6⟩ := hKs
        obtain ⟨⟨v, p, k1, k2⟩, -⟩ := h6 t ht
        exact ⟨v, p, _, k1⟩
      obtain ⟨w3, rfl⟩ := va_ex2 x0 s1
      refine ab_sound ok_118 [23] 80 ?_
      refine And.intro (fun _ => ?_) (fun h_9 => absurd (nI_le (Nat.le_refl _) (by omega)) h_9)
      obtain ⟨v0, p0, a0, k1⟩ := hsh
      refine And.intro (⟨_, k1⟩) ?_
      (refine Exists.intro mc ?_; refine ⟨ms, _, by omega, by omega, k_fillO _ _ t M _ _ ht rfl rfl hM hKs hg hr hsm (hbd2.imp_right (fun q => q.fr ht hSh2 hf FR_FS)), ?_⟩; rintro _ w4 n4 ⟨rfl, b1, b2, b3, b4⟩)
      subst hQ
      have hs4 := hs.fr b2 (by unfold FS; omega) (by unfold FS; omega) (by unfold FS; omega)
      have hkp4 : KP w4 := hkp3.fr b2 (fun k hk => by unfold FS at hk; omega)
      have x04 : w4 0 = oWP 44 ks lf := b2.get rfl (by unfold FS; omega)
      have x43 := b2.get hg (by unfold FS; omega)
      refine ⟨rfl, b1, (f2.trans (hf.mono (fun k hk => .inl (.inl hk)))).trans (b2.mono (fun k hk => .inl (.inr hk))), ⟨x04, Or.inr ⟨M, hs4⟩, b3, g, x43⟩, hkp4, hs4, b4⟩
    · intro w3 hf hs g hg hr l5 l6
      have x0 := hf.get y0 (by omega)
      obtain ⟨-, c, f, s1, s2, s3, s4⟩ := id hs
      have inn : ∀ i, i ≤ (PnL K p).length → ∀ w4 f4, Fr FR w2 w4 → w4 17 = oSums (nI M) (nI (phi M)) → w4 18 = aJ 59 c → w4 19 = aJ 60 f4 → w4 43 = aJ 3480 g → E60 f4 (drR K p M k i) → ∀ l6 : Option Value, ab_Ev X l i_WP_drawInto 39 [some (.ref 0), some (.ref (qp t)), some (.int (nI p)), some (.int (nI M)), some (.int (nI k)), some (.int (nI i)), l6] [] w4 n mc ms Q := by
        refine ab_up (PnL K p).length ?_ (fun i hi jh => ?_)
        · intro w4 f4 hf4 t17 t18 t19 t43 hE l6
          have x0 := hf4.get y0 (by omega)
          have x12 := hf4.get y12 (by omega)
          have hs4 : KSums w4 M := ⟨hM, c, f4, t17, t18, t19, s4⟩
          obtain ⟨w4, rfl⟩ := va_ex3 x0 x12 t17
          refine ab_sound ok_118 [23] 80 ?_
          refine And.intro (fun _ => ?_) (fun h_9 => absurd (nI_le (Nat.le_refl _) (by omega)) h_9)
          (refine Exists.intro 0 ?_; refine ⟨0, _, Nat.zero_le _, Nat.zero_le _, c_Sums_reduce M (phi M) _ _ (by omega) (by omega) hM.2 (phi_le M hM.2) t17 t18 t19, ?_⟩; refine ab_q1_elim ?_)
          (refine Exists.intro 0 ?_; refine ⟨0, _, Nat.zero_le _, Nat.zero_le _, c_Sums_store_43 k (phi M) 3480 _ _ (by omega) (by have := phi_le M hM.2; omega) (kp_le hM hk) (by omega) t17 va_us ((va_un (by omega)).trans t43), ?_⟩; refine ab_q1_elim ?_)
          refine ab_ev_of (ih _ ((hf4.up (by omega)).up (by omega)) ?_ _ va_us (st_rows hM hk hr ?_) (some (.int (nI (PnL K p).length))) l6) (by rw [nI_s k]; rfl) rfl rfl
          · exact hs4.set.fr ((Fr.refl (F := fun k => k = 43)).up rfl) (by omega) (by omega) (by omega)
          · intro i hi
            rw [red_allc M hM.2 hM.1 s4 i hi]
            exact e60_red hM.2 hE i
        · intro w4 f4 hf4 t17 t18 t19 t43 hE l6
          have x0 := hf4.get y0 (by omega)
          have x12 := hf4.get y12 (by omega)
          have x15 := hf4.get y15 (by omega)
          have x16 := hf4.get y16 (by omega)
          have hlt := md_lt (PnF K p i).toInt (show 0 < M by omega)
          have hmk : md (PnF K p i).toInt M * k ≤ 60 * 60 := Nat.mul_le_mul (by omega) (by omega)
          have hid : md ((nI (md (PnF K p i).toInt M * k)).toInt) M = drI K p M k i := by
            rw [nI_toInt (by omega), md_nat]; rfl
          obtain ⟨w4, rfl⟩ := va_ex5 x0 x12 t17 x15 x16
          refine ab_sound ok_118 [39] 80 ?_
          refine And.intro (fun h_9 => absurd h_9 (nI_ge hi (by omega))) (fun _ => ?_)
          refine And.intro (vp_in_nI (by omega) (by omega)) ?_
          rw [nI_clamp (by omega), g5 i hi]
          (refine Exists.intro 0 ?_; refine ⟨0, _, Nat.zero_le _, Nat.zero_le _, c_WP_wrapLong _ M (by omega) (by omega) _ _, ?_⟩; refine ab_q1_elim ?_)
          (refine Exists.intro 0 ?_; refine ⟨0, _, Nat.zero_le _, Nat.zero_le _, c_WP_wrap _ M (by omega) (by omega) _ _, ?_⟩; refine ab_q1_elim ?_)
          refine And.intro (vp_in_nI (by omega) (by omega)) ?_
          rw [nI_clamp (by omega), g6 i hi, show nI (md (PnW K p (PnO K p i)).toInt M) * nI k = nI (md (PnF K p i).toInt M * k) from pk_mul _ _, hid]
          (refine Exists.intro 0 ?_; refine ⟨0, _, Nat.zero_le _, Nat.zero_le _, c_Sums_add _ (drI K p M k i) _ _ _ rfl (by have := drI_lt K p k i (show 0 < M by omega); omega) t17 t19, ?_⟩; refine ab_q1_elim ?_)
          refine ab_ev_of (jh _ _ (hf4.up (k := 19) (by omega)) t17 t18 va_us t43 ?_ (some (.int (nI (md (PnF K p i).toInt M))))) (by rw [nI_s i]; rfl) rfl rfl
          exact e60_upd hE rfl (by rw [hE _ (by have := drI_lt K p k i (show 0 < M by omega); omega)]; rfl)
      obtain ⟨w3, rfl⟩ := va_ex2 x0 s1
      refine ab_sound ok_118 [39] 80 ?_
      refine And.intro (fun h_9 => absurd h_9 (nI_ge hk (by omega))) (fun _ => ?_)
      (refine Exists.intro 0 ?_; refine ⟨0, _, Nat.zero_le _, Nat.zero_le _, c_Sums_clear _ _ s1 s3, ?_⟩; refine ab_q1_elim ?_)
      exact ab_ev_of (inn 0 (by omega) _ _ (hf.up (k := 19) (by omega)) s1 s2 va_us ((va_un (by omega)).trans hg) (e60_zb f) l6) rfl rfl rfl
  exact ab_ev_of (loop 0 (by omega) w2 Fr.refl e2 g43 y43 (fun j i hj => by omega) none none) rfl rfl rfl
theorem k_drawInto_59 (x z : Int32) (t p M : Nat) (w : ab_W) (n : Nat) {mc ms : Nat} {N : Nat → Nat} {R : Nat → Nat → Nat → Int64} {ks : Nat} {lf : Int32} {K : KA} {nr nw np : Nat} (hx : x = nI p) (hz : z = nI M) (hbd : Bud w t mc ms) (ht : t < 9) (hM : 3 ≤ M ∧ M ≤ 60) (hp : p < np) (hB : KB w n 59 ks lf N R) (hK : KK w 59 K nr nw np) :
    ab_C X l i_WP_drawInto [.ref 0, .ref (qp t), .int x, .int z] w n mc ms (qV fun w' n' => n ≤ n' ∧ Fr FV w w' ∧ KB w' n' 59 ks lf (va_up N t M) (va_up R t (DrV K p M)) ∧ KP w' ∧ KSums w' M ∧ ∃ b, ShIs w' (qp t) M b (DrV K p M)) := by
  subst hx hz
  obtain ⟨h0, hS0, hSh, g43, h43⟩ := hB
  obtain ⟨hC, hA, hP⟩ := hK
  have hl : (PnL K p).length ≤ 5 := Nat.le_trans (flt_len _) (pn_ok hA hp).2
  have hsm := dr_sm hA hp hM
  have hp1 := phi_ge M hM.2 hM.1
  have hp2 := phi_lt M hM.2 hM.1
  obtain ⟨⟨pa, pb, k12⟩, -⟩ := id hP
  obtain ⟨w9, rfl⟩ := va_ex2 h0 k12
  refine ab_mqV cd_118 om_118 rfl rfl (ab_sound ok_118 [23] 80 ?_)
  (refine Exists.intro 0 ?_; refine ⟨0, _, Nat.zero_le _, Nat.zero_le _, k_gather_59 _ p _ _ rfl hp hA hC hP, ?_⟩; rintro _ w1 _ ⟨rfl, rfl, f1, hG⟩)
  have z0 : w1 0 = oWP 59 ks lf := f1.get rfl (by omega)
  have hS1 : KS0 w1 := hS0.fr f1 (by omega) (by omega) (by omega)
  have hSh1 : KSh w1 n N R := hSh.fr f1 (fun k hk => ⟨by omega, by unfold FS; omega⟩) (Nat.le_refl _)
  have z43 := f1.get h43 (by omega)
  have hkp := hG.kp
  obtain ⟨v7, p7, z17⟩ := hS1.obj
  obtain ⟨g0, -, -, ⟨f15, g3, g6⟩, f16, g4, g5⟩ := hG
  obtain ⟨w1, rfl⟩ := va_ex2 z0 z17
  (refine Exists.intro 0 ?_; refine ⟨0, _, Nat.zero_le _, Nat.zero_le _, k_choose _ M _ _ rfl hM.2 hM.1 hS1, ?_⟩; rintro _ w2 _ ⟨rfl, rfl, e1, e2⟩)
  have y43 := e1.get z43 (by omega)
  have y0 := e1.get z0 (by omega)
  have y12 := e1.get g0 (by omega)
  have y15 := e1.get g3 (by omega)
  have y16 := e1.get g4 (by omega)
  have hSh2 : KSh w2 n N R := hSh1.fr e1 (fun k hk => ⟨by omega, by unfold FS; omega⟩) (Nat.le_refl _)
  have hbd2 : Bud w2 t mc ms := hbd.imp_right (fun q => (q.fr ht hSh f1 (fun k hk => by unfold FS; omega)).fr ht hSh1 e1 (fun k hk => by unfold FS; omega))
  have hkp2 : KP w2 := hkp.fr e1 (fun k hk => by omega)
  have f2 : Fr FV (va_up (va_up w9 12 (oPA pa pb)) 0 (oWP 59 ks lf)) w2 := f1.tr e1 (fun k hk => .inr hk) (fun k hk => .inl (.inl (by omega)))
  generalize hQ : (qV fun w' n' => n ≤ n' ∧ Fr FV (va_up (va_up w9 12 (oPA pa pb)) 0 (oWP 59 ks lf)) w' ∧ KB w' n' 59 ks lf (va_up N t M) (va_up R t (DrV K p M)) ∧ KP w' ∧ KSums w' M ∧ ∃ b, ShIs w' (qp t) M b (DrV K p M)) = Q
  have loop : ∀ k, k ≤ M → ∀ w3, Fr FR w2 w3 → KSums w3 M → ∀ g, w3 43 = aJ 3480 g → (∀ j i, j < k → i < phi M → g (j * phi M + i) = DrV K p M j i) → ∀ l5 l6 : Option Value, ab_Ev X l i_WP_drawInto 23 [some (.ref 0), some (.ref (qp t)), some (.int (nI p)), some (.int (nI M)), some (.int (nI k)), l5, l6] [] w3 n mc ms Q := by
    refine ab_up M ?_ (fun k hk ih => ?_)
    · intro w3 hf hs g hg hr l5 l6
      have hKs : KSh w3 n N R := hSh2.fr hf (fun k hk => ⟨by omega, FR_FS k hk⟩) (Nat.le_refl _)
      have x0 := hf.get y0 (by omega)
      have hkp3 : KP w3 := hkp2.fr hf (fun k hk => by omega)
      obtain ⟨-, c, f, s1, s2, s3, s4⟩ := id hs
      have hsh : ∃ v p a, w3 (qp t) = oSheet v p a := by
        obtain ⟨b, -, -, -, -, -, h6⟩ := hKs
        obtain ⟨⟨v, p, k1, k2⟩, -⟩ := h6 t ht
        exact ⟨v, p, _, k1⟩
      obtain ⟨w3, rfl⟩ := va_ex2 x0 s1
      refine ab_sound ok_118 [23] 80 ?_
      refine And.intro (fun _ => ?_) (fun h_9 => absurd (nI_le (Nat.le_refl _) (by omega)) h_9)
      obtain ⟨v0, p0, a0, k1⟩ := hsh
      refine And.intro (⟨_, k1⟩) ?_
      (refine Exists.intro mc ?_; refine ⟨ms, _, by omega, by omega, k_fillO _ _ t M _ _ ht rfl rfl hM hKs hg hr hsm (hbd2.imp_right (fun q => q.fr ht hSh2 hf FR_FS)), ?_⟩; rintro _ w4 n4 ⟨rfl, b1, b2, b3, b4⟩)
      subst hQ
      have hs4 := hs.fr b2 (by unfold FS; omega) (by unfold FS; omega) (by unfold FS; omega)
      have hkp4 : KP w4 := hkp3.fr b2 (fun k hk => by unfold FS at hk; omega)
      have x04 : w4 0 = oWP 59 ks lf := b2.get rfl (by unfold FS; omega)
      have x43 := b2.get hg (by unfold FS; omega)
      refine ⟨rfl, b1, (f2.trans (hf.mono (fun k hk => .inl (.inl hk)))).trans (b2.mono (fun k hk => .inl (.inr hk))), ⟨x04, Or.inr ⟨M, hs4⟩, b3, g, x43⟩, hkp4, hs4, b4⟩
    · intro w3 hf hs g hg hr l5 l6
      have x0 := hf.get y0 (by omega)
      obtain ⟨-, c, f, s1, s2, s3, s4⟩ := id hs
      have inn : ∀ i, i ≤ (PnL K p).length → ∀ w4 f4, Fr FR w2 w4 → w4 17 = oSums (nI M) (nI (phi M)) → w4 18 = aJ 59 c → w4 19 = aJ 60 f4 → w4 43 = aJ 3480 g → E60 f4 (drR K p M k i) → ∀ l6 : Option Value, ab_Ev X l i_WP_drawInto 39 [some (.ref 0), some (.ref (qp t)), some (.int (nI p)), some (.int (nI M)), some (.int (nI k)), some (.int (nI i)), l6] [] w4 n mc ms Q := by
        refine ab_up (PnL K p).length ?_ (fun i hi jh => ?_)
        · intro w4 f4 hf4 t17 t18 t19 t43 hE l6
          have x0 := hf4.get y0 (by omega)
          have x12 := hf4.get y12 (by omega)
          have hs4 : KSums w4 M := ⟨hM, c, f4, t17, t18, t19, s4⟩
          obtain ⟨w4, rfl⟩ := va_ex3 x0 x12 t17
          refine ab_sound ok_118 [23] 80 ?_
          refine And.intro (fun _ => ?_) (fun h_9 => absurd (nI_le (Nat.le_refl _) (by omega)) h_9)
          (refine Exists.intro 0 ?_; refine ⟨0, _, Nat.zero_le _, Nat.zero_le _, c_Sums_reduce M (phi M) _ _ (by omega) (by omega) hM.2 (phi_le M hM.2) t17 t18 t19, ?_⟩; refine ab_q1_elim ?_)
          (refine Exists.intro 0 ?_; refine ⟨0, _, Nat.zero_le _, Nat.zero_le _, c_Sums_store_43 k (phi M) 3480 _ _ (by omega) (by have := phi_le M hM.2; omega) (kp_le hM hk) (by omega) t17 va_us ((va_un (by omega)).trans t43), ?_⟩; refine ab_q1_elim ?_)
          refine ab_ev_of (ih _ ((hf4.up (by omega)).up (by omega)) ?_ _ va_us (st_rows hM hk hr ?_) (some (.int (nI (PnL K p).length))) l6) (by rw [nI_s k]; rfl) rfl rfl
          · exact hs4.set.fr ((Fr.refl (F := fun k => k = 43)).up rfl) (by omega) (by omega) (by omega)
          · intro i hi
            rw [red_allc M hM.2 hM.1 s4 i hi]
            exact e60_red hM.2 hE i
        · intro w4 f4 hf4 t17 t18 t19 t43 hE l6
          have x0 := hf4.get y0 (by omega)
          have x12 := hf4.get y12 (by omega)
          have x15 := hf4.get y15 (by omega)
          have x16 := hf4.get y16 (by omega)
          have hlt := md_lt (PnF K p i).toInt (show 0 < M by omega)
          have hmk : md (PnF K p i).toInt M * k ≤ 60 * 60 := Nat.mul_le_mul (by omega) (by omega)
          have hid : md ((nI (md (PnF K p i).toInt M * k)).toInt) M = drI K p M k i := by
            rw [nI_toInt (by omega), md_nat]; rfl
          obtain ⟨w4, rfl⟩ := va_ex5 x0 x12 t17 x15 x16
          refine ab_sound ok_118 [39] 80 ?_
          refine And.intro (fun h_9 => absurd h_9 (nI_ge hi (by omega))) (fun _ => ?_)
          refine And.intro (vp_in_nI (by omega) (by omega)) ?_
          rw [nI_clamp (by omega), g5 i hi]
          (refine Exists.intro 0 ?_; refine ⟨0, _, Nat.zero_le _, Nat.zero_le _, c_WP_wrapLong _ M (by omega) (by omega) _ _, ?_⟩; refine ab_q1_elim ?_)
          (refine Exists.intro 0 ?_; refine ⟨0, _, Nat.zero_le _, Nat.zero_le _, c_WP_wrap _ M (by omega) (by omega) _ _, ?_⟩; refine ab_q1_elim ?_)
          refine And.intro (vp_in_nI (by omega) (by omega)) ?_
          rw [nI_clamp (by omega), g6 i hi, show nI (md (PnW K p (PnO K p i)).toInt M) * nI k = nI (md (PnF K p i).toInt M * k) from pk_mul _ _, hid]
          (refine Exists.intro 0 ?_; refine ⟨0, _, Nat.zero_le _, Nat.zero_le _, c_Sums_add _ (drI K p M k i) _ _ _ rfl (by have := drI_lt K p k i (show 0 < M by omega); omega) t17 t19, ?_⟩; refine ab_q1_elim ?_)
          refine ab_ev_of (jh _ _ (hf4.up (k := 19) (by omega)) t17 t18 va_us t43 ?_ (some (.int (nI (md (PnF K p i).toInt M))))) (by rw [nI_s i]; rfl) rfl rfl
          exact e60_upd hE rfl (by rw [hE _ (by have := drI_lt K p k i (show 0 < M by omega); omega)]; rfl)
      obtain ⟨w3, rfl⟩ := va_ex2 x0 s1
      refine ab_sound ok_118 [39] 80 ?_
      refine And.intro (fun h_9 => absurd h_9 (nI_ge hk (by omega))) (fun _ => ?_)
      (refine Exists.intro 0 ?_; refine ⟨0, _, Nat.zero_le _, Nat.zero_le _, c_Sums_clear _ _ s1 s3, ?_⟩; refine ab_q1_elim ?_)
      exact ab_ev_of (inn 0 (by omega) _ _ (hf.up (k := 19) (by omega)) s1 s2 va_us ((va_un (by omega)).trans hg) (e60_zb f) l6) rfl rfl rfl
  exact ab_ev_of (loop 0 (by omega) w2 Fr.refl e2 g43 y43 (fun j i hj => by omega) none none) rfl rfl rfl
end DRAW
