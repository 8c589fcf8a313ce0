section MLIKE2
variable {X : ab_X} {l : Launch}
theorem c_Mod_isNought_117 (p b L : Nat) (x : Int32) (w : ab_W) (n : Nat) {s : Nat → Int32} {wd tn : Int64} {g : Nat → Int64} (hx : x = nI b) (hp : p ≤ 58) (hb : b + p ≤ L) (hL : L ≤ 30000) (hs2 : s 39 = nI p) (h0 : w 90 = oMod s wd tn) (h3 : w 117 = aJ L g) : ab_C X l i_Mod_isNought [.ref 90, .ref 117, .int x] w n 0 0 (ab_q1 (some (.int (b01 (lkB p (fun i => g (b + i)) (fun _ => 0))))) w n) := by
  subst hx
  obtain ⟨w, rfl⟩ := va_ex2 h3 h0
  refine ab_metI cd_232 om_232 rfl (ab_sound ok_232 [2] 50 ?_)
  have loop : ∀ i, i ≤ p → (∀ m, m < i → g (b + m) = 0) → ab_Ev X l i_Mod_isNought 2 [some (.ref 90), some (.ref 117), some (.int (nI b)), some (.int (nI i))] [] (va_up (va_up w 90 (oMod s wd tn)) 117 (aJ L g)) n 0 0 (ab_q1 (some (.int (b01 (lkB p (fun i => g (b + i)) (fun _ => 0))))) (va_up (va_up w 90 (oMod s wd tn)) 117 (aJ L g)) n) := by
    refine ab_up p ?_ (fun i hi ih => ?_)
    · intro hm
      refine ab_sound ok_232 [2] 50 ?_
      refine And.intro (fun _ => ?_) (fun h_9 => absurd ((by rw [hs2]; exact nI_le (Nat.le_refl _) (by omega))) h_9)
      have e : lkB p (fun i => g (b + i)) (fun _ => 0) = true := lkB_iff.mpr hm
      rw [e]
      exact ⟨rfl, rfl, rfl, rfl⟩
    · intro hm
      refine ab_sound ok_232 [2] 50 ?_
      refine And.intro (fun h_9 => absurd h_9 ((by rw [hs2]; exact nI_ge hi (by omega)))) (fun _ => ?_)
      refine And.intro ((by rw [nI_add]; exact vp_in_nI (by omega) (by omega))) ?_
      rw [nI_add, nI_clamp (by omega)]
      refine And.intro (fun hc => ?_) (fun hc => ?_)
      · rw [lz_eq] at hc
        refine ab_ev_of (ih (fun m hm2 => ?_)) (by rw [nI_s i]; rfl) rfl rfl
        by_cases e : m = i
        · rw [e]; exact hc
        · exact hm m (by omega)
      · rw [lz_eq] at hc
        have e : lkB p (fun i => g (b + i)) (fun _ => 0) = false := by
          rw [← Bool.not_eq_true, lkB_iff]
          exact fun hq => hc (hq i hi)
        rw [e]
        exact ⟨rfl, rfl, rfl, rfl⟩
  exact loop 0 (by omega) (fun m hm => by omega)
theorem c_Mod_isLike_116 (x z : Int32) (p a b L : Nat) (w : ab_W) (n : Nat) {s : Nat → Int32} {wd tn : Int64} {g : Nat → Int64} (hx : x = nI a) (hz : z = nI b) (hp : p ≤ 58) (ha : a + p ≤ L) (hb : b + p ≤ L) (hL : L ≤ 30000) (hs2 : s 39 = nI p) (h0 : w 90 = oMod s wd tn) (h3 : w 116 = aJ L g) : ab_C X l i_Mod_isLike [.ref 90, .ref 116, .int x, .ref 116, .int z] w n 0 0 (ab_q1 (some (.int (b01 (lkB p (fun i => g (a + i)) (fun i => g (b + i)))))) w n) := by
  subst hx hz
  obtain ⟨w, rfl⟩ := va_ex2 h3 h0
  refine ab_metI cd_206 om_206 rfl (ab_sound ok_206 [3] 50 ?_)
  have loop : ∀ i, i ≤ p → (∀ m, m < i → g (a + m) = g (b + m)) → ab_Ev X l i_Mod_isLike 3 [some (.ref 90), some (.ref 116), some (.int (nI a)), some (.ref 116), some (.int (nI b)), some (.int (nI i))] [] (va_up (va_up w 90 (oMod s wd tn)) 116 (aJ L g)) n 0 0 (ab_q1 (some (.int (b01 (lkB p (fun i => g (a + i)) (fun i => g (b + i)))))) (va_up (va_up w 90 (oMod s wd tn)) 116 (aJ L g)) n) := by
    refine ab_up p ?_ (fun i hi ih => ?_)
    · intro hm
      refine ab_sound ok_206 [3] 50 ?_
      refine And.intro (fun _ => ?_) (fun h_9 => absurd ((by rw [hs2]; exact nI_le (Nat.le_refl _) (by omega))) h_9)
      have e : lkB p (fun i => g (a + i)) (fun i => g (b + i)) = true := lkB_iff.mpr hm
      rw [e]
      exact ⟨rfl, rfl, rfl, rfl⟩
    · intro hm
      refine ab_sound ok_206 [3] 50 ?_
      refine And.intro (fun h_9 => absurd h_9 ((by rw [hs2]; exact nI_ge hi (by omega)))) (fun _ => ?_)
      refine And.intro ((by rw [nI_add]; exact vp_in_nI (by omega) (by omega))) ?_
      refine And.intro ((by rw [nI_add]; exact vp_in_nI (by omega) (by omega))) ?_
      rw [nI_add, nI_add, nI_clamp (by omega), nI_clamp (by omega)]
      refine And.intro (fun hc => ?_) (fun hc => ?_)
      · rw [lg_eq] at hc
        refine ab_ev_of (ih (fun m hm2 => ?_)) (by rw [nI_s i]; rfl) rfl rfl
        by_cases e : m = i
        · rw [e]; exact hc
        · exact hm m (by omega)
      · rw [lg_eq] at hc
        have e : lkB p (fun i => g (a + i)) (fun i => g (b + i)) = false := by
          rw [← Bool.not_eq_true, lkB_iff]
          exact fun hq => hc (hq i hi)
        rw [e]
        exact ⟨rfl, rfl, rfl, rfl⟩
  exact loop 0 (by omega) (fun m hm => by omega)
theorem c_Mod_isLike_117 (x z : Int32) (p a b L : Nat) (w : ab_W) (n : Nat) {s : Nat → Int32} {wd tn : Int64} {g : Nat → Int64} (hx : x = nI a) (hz : z = nI b) (hp : p ≤ 58) (ha : a + p ≤ L) (hb : b + p ≤ L) (hL : L ≤ 30000) (hs2 : s 39 = nI p) (h0 : w 90 = oMod s wd tn) (h3 : w 117 = aJ L g) : ab_C X l i_Mod_isLike [.ref 90, .ref 117, .int x, .ref 117, .int z] w n 0 0 (ab_q1 (some (.int (b01 (lkB p (fun i => g (a + i)) (fun i => g (b + i)))))) w n) := by
  subst hx hz
  obtain ⟨w, rfl⟩ := va_ex2 h3 h0
  refine ab_metI cd_206 om_206 rfl (ab_sound ok_206 [3] 50 ?_)
  have loop : ∀ i, i ≤ p → (∀ m, m < i → g (a + m) = g (b + m)) → ab_Ev X l i_Mod_isLike 3 [some (.ref 90), some (.ref 117), some (.int (nI a)), some (.ref 117), some (.int (nI b)), some (.int (nI i))] [] (va_up (va_up w 90 (oMod s wd tn)) 117 (aJ L g)) n 0 0 (ab_q1 (some (.int (b01 (lkB p (fun i => g (a + i)) (fun i => g (b + i)))))) (va_up (va_up w 90 (oMod s wd tn)) 117 (aJ L g)) n) := by
    refine ab_up p ?_ (fun i hi ih => ?_)
    · intro hm
      refine ab_sound ok_206 [3] 50 ?_
      refine And.intro (fun _ => ?_) (fun h_9 => absurd ((by rw [hs2]; exact nI_le (Nat.le_refl _) (by omega))) h_9)
      have e : lkB p (fun i => g (a + i)) (fun i => g (b + i)) = true := lkB_iff.mpr hm
      rw [e]
      exact ⟨rfl, rfl, rfl, rfl⟩
    · intro hm
      refine ab_sound ok_206 [3] 50 ?_
      refine And.intro (fun h_9 => absurd h_9 ((by rw [hs2]; exact nI_ge hi (by omega)))) (fun _ => ?_)
      refine And.intro ((by rw [nI_add]; exact vp_in_nI (by omega) (by omega))) ?_
      refine And.intro ((by rw [nI_add]; exact vp_in_nI (by omega) (by omega))) ?_
      rw [nI_add, nI_add, nI_clamp (by omega), nI_clamp (by omega)]
      refine And.intro (fun hc => ?_) (fun hc => ?_)
      · rw [lg_eq] at hc
        refine ab_ev_of (ih (fun m hm2 => ?_)) (by rw [nI_s i]; rfl) rfl rfl
        by_cases e : m = i
        · rw [e]; exact hc
        · exact hm m (by omega)
      · rw [lg_eq] at hc
        have e : lkB p (fun i => g (a + i)) (fun i => g (b + i)) = false := by
          rw [← Bool.not_eq_true, lkB_iff]
          exact fun hq => hc (hq i hi)
        rw [e]
        exact ⟨rfl, rfl, rfl, rfl⟩
  exact loop 0 (by omega) (fun m hm => by omega)
theorem c_Mod_isLike_118 (x z : Int32) (p a b L : Nat) (w : ab_W) (n : Nat) {s : Nat → Int32} {wd tn : Int64} {g : Nat → Int64} (hx : x = nI a) (hz : z = nI b) (hp : p ≤ 58) (ha : a + p ≤ L) (hb : b + p ≤ L) (hL : L ≤ 30000) (hs2 : s 39 = nI p) (h0 : w 90 = oMod s wd tn) (h3 : w 118 = aJ L g) : ab_C X l i_Mod_isLike [.ref 90, .ref 118, .int x, .ref 118, .int z] w n 0 0 (ab_q1 (some (.int (b01 (lkB p (fun i => g (a + i)) (fun i => g (b + i)))))) w n) := by
  subst hx hz
  obtain ⟨w, rfl⟩ := va_ex2 h3 h0
  refine ab_metI cd_206 om_206 rfl (ab_sound ok_206 [3] 50 ?_)
  have loop : ∀ i, i ≤ p → (∀ m, m < i → g (a + m) = g (b + m)) → ab_Ev X l i_Mod_isLike 3 [some (.ref 90), some (.ref 118), some (.int (nI a)), some (.ref 118), some (.int (nI b)), some (.int (nI i))] [] (va_up (va_up w 90 (oMod s wd tn)) 118 (aJ L g)) n 0 0 (ab_q1 (some (.int (b01 (lkB p (fun i => g (a + i)) (fun i => g (b + i)))))) (va_up (va_up w 90 (oMod s wd tn)) 118 (aJ L g)) n) := by
    refine ab_up p ?_ (fun i hi ih => ?_)
    · intro hm
      refine ab_sound ok_206 [3] 50 ?_
      refine And.intro (fun _ => ?_) (fun h_9 => absurd ((by rw [hs2]; exact nI_le (Nat.le_refl _) (by omega))) h_9)
      have e : lkB p (fun i => g (a + i)) (fun i => g (b + i)) = true := lkB_iff.mpr hm
      rw [e]
      exact ⟨rfl, rfl, rfl, rfl⟩
    · intro hm
      refine ab_sound ok_206 [3] 50 ?_
      refine And.intro (fun h_9 => absurd h_9 ((by rw [hs2]; exact nI_ge hi (by omega)))) (fun _ => ?_)
      refine And.intro ((by rw [nI_add]; exact vp_in_nI (by omega) (by omega))) ?_
      refine And.intro ((by rw [nI_add]; exact vp_in_nI (by omega) (by omega))) ?_
      rw [nI_add, nI_add, nI_clamp (by omega), nI_clamp (by omega)]
      refine And.intro (fun hc => ?_) (fun hc => ?_)
      · rw [lg_eq] at hc
        refine ab_ev_of (ih (fun m hm2 => ?_)) (by rw [nI_s i]; rfl) rfl rfl
        by_cases e : m = i
        · rw [e]; exact hc
        · exact hm m (by omega)
      · rw [lg_eq] at hc
        have e : lkB p (fun i => g (a + i)) (fun i => g (b + i)) = false := by
          rw [← Bool.not_eq_true, lkB_iff]
          exact fun hq => hc (hq i hi)
        rw [e]
        exact ⟨rfl, rfl, rfl, rfl⟩
  exact loop 0 (by omega) (fun m hm => by omega)
theorem c_Mod_isLike_116_118 (x z : Int32) (p a b L M : Nat) (w : ab_W) (n : Nat) {s : Nat → Int32} {wd tn : Int64} {g h : Nat → Int64} (hx : x = nI a) (hz : z = nI b) (hp : p ≤ 58) (ha : a + p ≤ L) (hb : b + p ≤ M) (hL : L ≤ 30000) (hM : M ≤ 30000) (hs2 : s 39 = nI p) (h0 : w 90 = oMod s wd tn) (h3 : w 116 = aJ L g) (h4 : w 118 = aJ M h) : ab_C X l i_Mod_isLike [.ref 90, .ref 116, .int x, .ref 118, .int z] w n 0 0 (ab_q1 (some (.int (b01 (lkB p (fun i => g (a + i)) (fun i => h (b + i)))))) w n) := by
  subst hx hz
  obtain ⟨w, rfl⟩ := va_ex3 h4 h3 h0
  refine ab_metI cd_206 om_206 rfl (ab_sound ok_206 [3] 50 ?_)
  have loop : ∀ i, i ≤ p → (∀ m, m < i → g (a + m) = h (b + m)) → ab_Ev X l i_Mod_isLike 3 [some (.ref 90), some (.ref 116), some (.int (nI a)), some (.ref 118), some (.int (nI b)), some (.int (nI i))] [] (va_up (va_up (va_up w 90 (oMod s wd tn)) 116 (aJ L g)) 118 (aJ M h)) n 0 0 (ab_q1 (some (.int (b01 (lkB p (fun i => g (a + i)) (fun i => h (b + i)))))) (va_up (va_up (va_up w 90 (oMod s wd tn)) 116 (aJ L g)) 118 (aJ M h)) n) := by
    refine ab_up p ?_ (fun i hi ih => ?_)
    · intro hm
      refine ab_sound ok_206 [3] 50 ?_
      refine And.intro (fun _ => ?_) (fun h_9 => absurd ((by rw [hs2]; exact nI_le (Nat.le_refl _) (by omega))) h_9)
      have e : lkB p (fun i => g (a + i)) (fun i => h (b + i)) = true := lkB_iff.mpr hm
      rw [e]
      exact ⟨rfl, rfl, rfl, rfl⟩
    · intro hm
      refine ab_sound ok_206 [3] 50 ?_
      refine And.intro (fun h_9 => absurd h_9 ((by rw [hs2]; exact nI_ge hi (by omega)))) (fun _ => ?_)
      refine And.intro ((by rw [nI_add]; exact vp_in_nI (by omega) (by omega))) ?_
      refine And.intro ((by rw [nI_add]; exact vp_in_nI (by omega) (by omega))) ?_
      rw [nI_add, nI_add, nI_clamp (by omega), nI_clamp (by omega)]
      refine And.intro (fun hc => ?_) (fun hc => ?_)
      · rw [lg_eq] at hc
        refine ab_ev_of (ih (fun m hm2 => ?_)) (by rw [nI_s i]; rfl) rfl rfl
        by_cases e : m = i
        · rw [e]; exact hc
        · exact hm m (by omega)
      · rw [lg_eq] at hc
        have e : lkB p (fun i => g (a + i)) (fun i => h (b + i)) = false := by
          rw [← Bool.not_eq_true, lkB_iff]
          exact fun hq => hc (hq i hi)
        rw [e]
        exact ⟨rfl, rfl, rfl, rfl⟩
  exact loop 0 (by omega) (fun m hm => by omega)
theorem c_Mod_isLike_118_116 (x z : Int32) (p a b L M : Nat) (w : ab_W) (n : Nat) {s : Nat → Int32} {wd tn : Int64} {g h : Nat → Int64} (hx : x = nI a) (hz : z = nI b) (hp : p ≤ 58) (ha : a + p ≤ L) (hb : b + p ≤ M) (hL : L ≤ 30000) (hM : M ≤ 30000) (hs2 : s 39 = nI p) (h0 : w 90 = oMod s wd tn) (h3 : w 118 = aJ L g) (h4 : w 116 = aJ M h) : ab_C X l i_Mod_isLike [.ref 90, .ref 118, .int x, .ref 116, .int z] w n 0 0 (ab_q1 (some (.int (b01 (lkB p (fun i => g (a + i)) (fun i => h (b + i)))))) w n) := by
  subst hx hz
  obtain ⟨w, rfl⟩ := va_ex3 h4 h3 h0
  refine ab_metI cd_206 om_206 rfl (ab_sound ok_206 [3] 50 ?_)
  have loop : ∀ i, i ≤ p → (∀ m, m < i → g (a + m) = h (b + m)) → ab_Ev X l i_Mod_isLike 3 [some (.ref 90), some (.ref 118), some (.int (nI a)), some (.ref 116), some (.int (nI b)), some (.int (nI i))] [] (va_up (va_up (va_up w 90 (oMod s wd tn)) 118 (aJ L g)) 116 (aJ M h)) n 0 0 (ab_q1 (some (.int (b01 (lkB p (fun i => g (a + i)) (fun i => h (b + i)))))) (va_up (va_up (va_up w 90 (oMod s wd tn)) 118 (aJ L g)) 116 (aJ M h)) n) := by
    refine ab_up p ?_ (fun i hi ih => ?_)
    · intro hm
      refine ab_sound ok_206 [3] 50 ?_
      refine And.intro (fun _ => ?_) (fun h_9 => absurd ((by rw [hs2]; exact nI_le (Nat.le_refl _) (by omega))) h_9)
      have e : lkB p (fun i => g (a + i)) (fun i => h (b + i)) = true := lkB_iff.mpr hm
      rw [e]
      exact ⟨rfl, rfl, rfl, rfl⟩
    · intro hm
      refine ab_sound ok_206 [3] 50 ?_
      refine And.intro (fun h_9 => absurd h_9 ((by rw [hs2]; exact nI_ge hi (by omega)))) (fun _ => ?_)
      refine And.intro ((by rw [nI_add]; exact vp_in_nI (by omega) (by omega))) ?_
      refine And.intro ((by rw [nI_add]; exact vp_in_nI (by omega) (by omega))) ?_
      rw [nI_add, nI_add, nI_clamp (by omega), nI_clamp (by omega)]
      refine And.intro (fun hc => ?_) (fun hc => ?_)
      · rw [lg_eq] at hc
        refine ab_ev_of (ih (fun m hm2 => ?_)) (by rw [nI_s i]; rfl) rfl rfl
        by_cases e : m = i
        · rw [e]; exact hc
        · exact hm m (by omega)
      · rw [lg_eq] at hc
        have e : lkB p (fun i => g (a + i)) (fun i => h (b + i)) = false := by
          rw [← Bool.not_eq_true, lkB_iff]
          exact fun hq => hc (hq i hi)
        rw [e]
        exact ⟨rfl, rfl, rfl, rfl⟩
  exact loop 0 (by omega) (fun m hm => by omega)
/-- the rows in an array: row k begins at b + 60 k -/
def rowsOf (g : Nat → Int64) (b : Nat) : Nat → Nat → Int64 := fun k i => g (b + 60 * k + i)
theorem c_Mod_firstLike_116 (x z : Int32) (p b k L : Nat) (w : ab_W) (n : Nat) {s : Nat → Int32} {wd tn : Int64} {g : Nat → Int64} (hx : x = nI b) (hz : z = nI k) (hk : k < 60) (hp : p ≤ 58) (hb : b + 3600 ≤ L) (hL : L ≤ 30000) (hs2 : s 39 = nI p) (h0 : w 90 = oMod s wd tn) (h3 : w 116 = aJ L g) : ab_C X l i_Mod_firstLike [.ref 90, .ref 116, .int x, .int z] w n 0 0 (ab_q1 (some (.int (nI (fst (fun i => lkB p (rowsOf g b i) (rowsOf g b k)) k 0)))) w n) := by
  subst hx hz
  obtain ⟨w, rfl⟩ := va_ex2 h3 h0
  refine ab_metI cd_205 om_205 rfl (ab_sound ok_205 [3] 50 ?_)
  have loop : ∀ (r i : Nat), i + r = k → ab_Ev X l i_Mod_firstLike 3 [some (.ref 90), some (.ref 116), some (.int (nI b)), some (.int (nI k)), some (.int (nI i))] [] (va_up (va_up w 90 (oMod s wd tn)) 116 (aJ L g)) n 0 0 (ab_q1 (some (.int (nI (fst (fun i => lkB p (rowsOf g b i) (rowsOf g b k)) r i)))) (va_up (va_up w 90 (oMod s wd tn)) 116 (aJ L g)) n) := by
    intro r
    induction r with
    | zero =>
      intro i hi
      refine ab_sound ok_205 [3] 50 ?_
      refine And.intro (fun _ => ?_) (fun h_9 => absurd (nI_le (by omega) (by omega)) h_9)
      exact ⟨rfl, rfl, rfl⟩
    | succ r ih =>
      intro i hi
      refine ab_sound ok_205 [3] 50 ?_
      refine And.intro (fun h_9 => absurd h_9 (nI_ge (by omega) (by omega))) (fun _ => ?_)
      (refine Exists.intro 0 ?_; refine ⟨0, _, Nat.zero_le _, Nat.zero_le _, c_Mod_isLike_116 _ _ p (b + 60 * i) (b + 60 * k) L _ _ (by rw [pk_mul, nI_add]) (by rw [pk_mul, nI_add]) hp (by omega) (by omega) hL hs2 rfl rfl, ?_⟩; rintro _ _ _ ⟨rfl, rfl, rfl⟩)
      rw [fst_s]
      have e9 : lkB p (rowsOf g b i) (rowsOf g b k) = lkB p (fun m => g (b + 60 * i + m)) (fun m => g (b + 60 * k + m)) := rfl
      refine And.intro (fun hc => ?_) (fun hc => ?_)
      · have hc : lkB p (fun m => g (b + 60 * i + m)) (fun m => g (b + 60 * k + m)) = true := by
          cases hb9 : lkB p (fun m => g (b + 60 * i + m)) (fun m => g (b + 60 * k + m)) with
          | true => rfl
          | false => rw [hb9] at hc; exact absurd rfl hc
        rw [e9, hc, if_pos rfl]
        exact ⟨rfl, rfl, rfl⟩
      · rw [b01_0] at hc
        rw [e9, hc, if_neg (by decide)]
        exact ab_ev_of (ih (i + 1) (by omega)) (by rw [nI_s i]; rfl) rfl rfl
  exact loop k 0 (by omega)
theorem c_Mod_unlike_116 (x : Int32) (N p b L : Nat) (w : ab_W) (n : Nat) {s : Nat → Int32} {wd tn : Int64} {g : Nat → Int64} (hx : x = nI b) (hN : N ≤ 60) (hp : p ≤ 58) (hb : b + 3600 ≤ L) (hL : L ≤ 30000) (hs : s 38 = nI N) (hs2 : s 39 = nI p) (h0 : w 90 = oMod s wd tn) (h3 : w 116 = aJ L g) : ab_C X l i_Mod_unlike [.ref 90, .ref 116, .int x] w n 0 0 (ab_q1 (some (.int (nI (cnt (fresh p (rowsOf g b)) N)))) w n) := by
  subst hx
  obtain ⟨w, rfl⟩ := va_ex2 h3 h0
  refine ab_metI cd_204 om_204 rfl (ab_sound ok_204 [5] 50 ?_)
  have loop : ∀ k, k ≤ N → ab_Ev X l i_Mod_unlike 5 [some (.ref 90), some (.ref 116), some (.int (nI b)), some (.int (nI (cnt (fresh p (rowsOf g b)) k))), some (.int (nI k))] [] (va_up (va_up w 90 (oMod s wd tn)) 116 (aJ L g)) n 0 0 (ab_q1 (some (.int (nI (cnt (fresh p (rowsOf g b)) N)))) (va_up (va_up w 90 (oMod s wd tn)) 116 (aJ L g)) n) := by
    refine ab_up N ?_ (fun k hk ih => ?_)
    · refine ab_sound ok_204 [5] 50 ?_
      refine And.intro (fun _ => ?_) (fun h_9 => absurd ((by rw [hs]; exact nI_le (Nat.le_refl _) (by omega))) h_9)
      exact ⟨rfl, rfl, rfl⟩
    · obtain ⟨f1, f2, f3, f4⟩ := fst_spec (fun i => lkB p (rowsOf g b i) (rowsOf g b k)) k 0
      refine ab_sound ok_204 [5] 50 ?_
      refine And.intro (fun h_9 => absurd h_9 ((by rw [hs]; exact nI_ge hk (by omega)))) (fun _ => ?_)
      (refine Exists.intro 0 ?_; refine ⟨0, _, Nat.zero_le _, Nat.zero_le _, c_Mod_firstLike_116 _ _ p b k L _ _ rfl rfl (by omega) hp hb hL hs2 rfl rfl, ?_⟩; rintro _ _ _ ⟨rfl, rfl, rfl⟩)
      generalize hv : fst (fun i => lkB p (rowsOf g b i) (rowsOf g b k)) k 0 = v at *
      have key : v = k ↔ fresh p (rowsOf g b) k = true := by
        constructor
        · intro e
          exact decide_eq_true (fun i hi => f1 i (by omega) (by omega))
        · intro e
          have := of_decide_eq_true e
          rcases Nat.lt_or_ge v k with g9 | g9
          · have g2 := this v g9
            have g3 := f4 (by omega)
            rw [g2] at g3
            cases g3
          · omega
      have hu : cnt (fresh p (rowsOf g b)) (k + 1) = cnt (fresh p (rowsOf g b)) k + (if fresh p (rowsOf g b) k = true then 1 else 0) := rfl
      rw [hu] at ih
      refine And.intro (fun hc => ?_) (fun hc => ?_)
      · have hc : ¬ fresh p (rowsOf g b) k = true := fun z => hc (by rw [key.mpr z])
        rw [if_neg hc] at ih
        exact ab_ev_of ih (by rw [nI_s k]; rfl) rfl rfl
      · have hc := key.mp ((nI_eq (by omega) (by omega)).mp hc)
        rw [if_pos hc] at ih
        exact ab_ev_of ih (by rw [nI_s k, nI_s (cnt _ k)]; rfl) rfl rfl
  exact loop 0 (by omega)
theorem c_Mod_firstLike_118 (x z : Int32) (p b k L : Nat) (w : ab_W) (n : Nat) {s : Nat → Int32} {wd tn : Int64} {g : Nat → Int64} (hx : x = nI b) (hz : z = nI k) (hk : k < 60) (hp : p ≤ 58) (hb : b + 3600 ≤ L) (hL : L ≤ 30000) (hs2 : s 39 = nI p) (h0 : w 90 = oMod s wd tn) (h3 : w 118 = aJ L g) : ab_C X l i_Mod_firstLike [.ref 90, .ref 118, .int x, .int z] w n 0 0 (ab_q1 (some (.int (nI (fst (fun i => lkB p (rowsOf g b i) (rowsOf g b k)) k 0)))) w n) := by
  subst hx hz
  obtain ⟨w, rfl⟩ := va_ex2 h3 h0
  refine ab_metI cd_205 om_205 rfl (ab_sound ok_205 [3] 50 ?_)
  have loop : ∀ (r i : Nat), i + r = k → ab_Ev X l i_Mod_firstLike 3 [some (.ref 90), some (.ref 118), some (.int (nI b)), some (.int (nI k)), some (.int (nI i))] [] (va_up (va_up w 90 (oMod s wd tn)) 118 (aJ L g)) n 0 0 (ab_q1 (some (.int (nI (fst (fun i => lkB p (rowsOf g b i) (rowsOf g b k)) r i)))) (va_up (va_up w 90 (oMod s wd tn)) 118 (aJ L g)) n) := by
    intro r
    induction r with
    | zero =>
      intro i hi
      refine ab_sound ok_205 [3] 50 ?_
      refine And.intro (fun _ => ?_) (fun h_9 => absurd (nI_le (by omega) (by omega)) h_9)
      exact ⟨rfl, rfl, rfl⟩
    | succ r ih =>
      intro i hi
      refine ab_sound ok_205 [3] 50 ?_
      refine And.intro (fun h_9 => absurd h_9 (nI_ge (by omega) (by omega))) (fun _ => ?_)
      (refine Exists.intro 0 ?_; refine ⟨0, _, Nat.zero_le _, Nat.zero_le _, c_Mod_isLike_118 _ _ p (b + 60 * i) (b + 60 * k) L _ _ (by rw [pk_mul, nI_add]) (by rw [pk_mul, nI_add]) hp (by omega) (by omega) hL hs2 rfl rfl, ?_⟩; rintro _ _ _ ⟨rfl, rfl, rfl⟩)
      rw [fst_s]
      have e9 : lkB p (rowsOf g b i) (rowsOf g b k) = lkB p (fun m => g (b + 60 * i + m)) (fun m => g (b + 60 * k + m)) := rfl
      refine And.intro (fun hc => ?_) (fun hc => ?_)
      · have hc : lkB p (fun m => g (b + 60 * i + m)) (fun m => g (b + 60 * k + m)) = true := by
          cases hb9 : lkB p (fun m => g (b + 60 * i + m)) (fun m => g (b + 60 * k + m)) with
          | true => rfl
          | false => rw [hb9] at hc; exact absurd rfl hc
        rw [e9, hc, if_pos rfl]
        exact ⟨rfl, rfl, rfl⟩
      · rw [b01_0] at hc
        rw [e9, hc, if_neg (by decide)]
        exact ab_ev_of (ih (i + 1) (by omega)) (by rw [nI_s i]; rfl) rfl rfl
  exact loop k 0 (by omega)
theorem c_Mod_unlike_118 (x : Int32) (N p b L : Nat) (w : ab_W) (n : Nat) {s : Nat → Int32} {wd tn : Int64} {g : Nat → Int64} (hx : x = nI b) (hN : N ≤ 60) (hp : p ≤ 58) (hb : b + 3600 ≤ L) (hL : L ≤ 30000) (hs : s 38 = nI N) (hs2 : s 39 = nI p) (h0 : w 90 = oMod s wd tn) (h3 : w 118 = aJ L g) : ab_C X l i_Mod_unlike [.ref 90, .ref 118, .int x] w n 0 0 (ab_q1 (some (.int (nI (cnt (fresh p (rowsOf g b)) N)))) w n) := by
  subst hx
  obtain ⟨w, rfl⟩ := va_ex2 h3 h0
  refine ab_metI cd_204 om_204 rfl (ab_sound ok_204 [5] 50 ?_)
  have loop : ∀ k, k ≤ N → ab_Ev X l i_Mod_unlike 5 [some (.ref 90), some (.ref 118), some (.int (nI b)), some (.int (nI (cnt (fresh p (rowsOf g b)) k))), some (.int (nI k))] [] (va_up (va_up w 90 (oMod s wd tn)) 118 (aJ L g)) n 0 0 (ab_q1 (some (.int (nI (cnt (fresh p (rowsOf g b)) N)))) (va_up (va_up w 90 (oMod s wd tn)) 118 (aJ L g)) n) := by
    refine ab_up N ?_ (fun k hk ih => ?_)
    · refine ab_sound ok_204 [5] 50 ?_
      refine And.intro (fun _ => ?_) (fun h_9 => absurd ((by rw [hs]; exact nI_le (Nat.le_refl _) (by omega))) h_9)
      exact ⟨rfl, rfl, rfl⟩
    · obtain ⟨f1, f2, f3, f4⟩ := fst_spec (fun i => lkB p (rowsOf g b i) (rowsOf g b k)) k 0
      refine ab_sound ok_204 [5] 50 ?_
      refine And.intro (fun h_9 => absurd h_9 ((by rw [hs]; exact nI_ge hk (by omega)))) (fun _ => ?_)
      (refine Exists.intro 0 ?_; refine ⟨0, _, Nat.zero_le _, Nat.zero_le _, c_Mod_firstLike_118 _ _ p b k L _ _ rfl rfl (by omega) hp hb hL hs2 rfl rfl, ?_⟩; rintro _ _ _ ⟨rfl, rfl, rfl⟩)
      generalize hv : fst (fun i => lkB p (rowsOf g b i) (rowsOf g b k)) k 0 = v at *
      have key : v = k ↔ fresh p (rowsOf g b) k = true := by
        constructor
        · intro e
          exact decide_eq_true (fun i hi => f1 i (by omega) (by omega))
        · intro e
          have := of_decide_eq_true e
          rcases Nat.lt_or_ge v k with g9 | g9
          · have g2 := this v g9
            have g3 := f4 (by omega)
            rw [g2] at g3
            cases g3
          · omega
      have hu : cnt (fresh p (rowsOf g b)) (k + 1) = cnt (fresh p (rowsOf g b)) k + (if fresh p (rowsOf g b) k = true then 1 else 0) := rfl
      rw [hu] at ih
      refine And.intro (fun hc => ?_) (fun hc => ?_)
      · have hc : ¬ fresh p (rowsOf g b) k = true := fun z => hc (by rw [key.mpr z])
        rw [if_neg hc] at ih
        exact ab_ev_of ih (by rw [nI_s k]; rfl) rfl rfl
      · have hc := key.mp ((nI_eq (by omega) (by omega)).mp hc)
        rw [if_pos hc] at ih
        exact ab_ev_of ih (by rw [nI_s k, nI_s (cnt _ k)]; rfl) rfl rfl
  exact loop 0 (by omega)
end MLIKE2
