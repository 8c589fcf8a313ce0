section LEAST
variable {X : ab_X} {l : Launch}
/-- Moebius, as the loop has it -/
def moeF (m : Nat) : Nat → Nat → Nat → Int32 → Int32
  | 0, _, _, s => s
  | f + 1, q, left, s => if m < q then s else if left % q = 0 then (if left / q % q = 0 then 0 else if -s = 0 then 0 else moeF m f (q + 1) (left / q) (-s)) else if s = 0 then 0 else moeF m f (q + 1) left s
def moe (m : Nat) : Int32 := moeF m m 2 m (nI 1)
theorem nz {k : Nat} (h : k < 2 ^ 31) : nI k = 0 ↔ k = 0 := by
  constructor
  · intro q
    exact (nI_eq (b := 0) h (by omega)).mp q
  · intro q
    rw [q]
    rfl
theorem c_Sums_moebius (x : Int32) (m : Nat) (hx : x = nI m) (hm : m ≤ 60) (hm1 : 1 ≤ m) (w : ab_W) (n : Nat) : ab_C X l i_Sums_moebius [.int x] w n 0 0 (ab_q1 (some (.int (moe m))) w n) := by
  subst hx
  refine ab_metI cd_67 om_67 rfl (ab_sound ok_67 [6] 50 ?_)
  have loop : ∀ (f q left : Nat) (s : Int32), m + 2 ≤ q + f → q ≤ m + 1 + 1 → 2 ≤ q → left ≤ 60 → ab_Ev X l i_Sums_moebius 6 [some (.int (nI m)), some (.int (nI left)), some (.int s), some (.int (nI q))] [] w n 0 0 (ab_q1 (some (.int (moeF m f q left s))) w n) := by
    intro f
    induction f with
    | zero =>
      intro q left s h1 h2 h3 h4
      refine ab_sound ok_67 [6] 50 ?_
      refine And.intro (fun _ => ?_) (fun h_9 => absurd (nI_lt (by omega) (by omega)) h_9)
      exact ⟨rfl, rfl, rfl⟩
    | succ f ih =>
      intro q left s h1 h2 h3 h4
      refine ab_sound ok_67 [6] 50 ?_
      unfold moeF
      by_cases hq : m < q
      · refine And.intro (fun _ => ?_) (fun h_9 => absurd (nI_lt hq (by omega)) h_9)
        rw [if_pos hq]
        exact ⟨rfl, rfl, rfl⟩
      · rw [if_neg hq]
        refine And.intro (fun h_9 => absurd h_9 (nI_nlt (by omega) (by omega))) (fun _ => ?_)
        refine And.intro (nI_ne0 (by omega) (by omega)) ?_
        rw [pk_rem (by omega) (by omega) (by omega)]
        have hd : left / q ≤ left := Nat.div_le_self left q
        by_cases hr : left % q = 0
        · rw [if_pos hr]
          refine And.intro (fun h9 => absurd ((nz (by omega)).mpr hr) h9) (fun _ => ?_)
          refine And.intro (nI_ne0 (by omega) (by omega)) ?_
          rw [pk_div (by omega) (by omega) (by omega)]
          refine And.intro (nI_ne0 (by omega) (by omega)) ?_
          rw [pk_rem (by omega) (by omega) (by omega)]
          have hl2 : left / q % q ≤ left / q := Nat.mod_le _ _
          by_cases hr2 : left / q % q = 0
          · rw [if_pos hr2]
            refine And.intro (fun h9 => absurd ((nz (by omega)).mpr hr2) h9) (fun _ => ?_)
            refine And.intro (fun h9 => absurd rfl h9) (fun _ => ?_)
            exact ⟨rfl, rfl, rfl⟩
          · rw [if_neg hr2]
            refine And.intro (fun _ => ?_) (fun h9 => absurd ((nz (by omega)).mp h9) hr2)
            by_cases hs : -s = 0
            · rw [if_pos hs]
              refine And.intro (fun h9 => absurd hs h9) (fun _ => ?_)
              exact ⟨rfl, rfl, rfl⟩
            · rw [if_neg hs]
              refine And.intro (fun _ => ?_) (fun h9 => absurd h9 hs)
              exact ab_ev_of (ih (q + 1) (left / q) (-s) (by omega) (by omega) (by omega) (by omega)) (by rw [nI_s q]; rfl) rfl rfl
        · rw [if_neg hr]
          have hl2 : left % q ≤ left := Nat.mod_le _ _
          refine And.intro (fun _ => ?_) (fun h9 => absurd ((nz (by omega)).mp h9) hr)
          by_cases hs : s = 0
          · rw [if_pos hs]
            refine And.intro (fun h9 => absurd hs h9) (fun _ => ?_)
            exact ⟨rfl, rfl, rfl⟩
          · rw [if_neg hs]
            refine And.intro (fun _ => ?_) (fun h9 => absurd h9 hs)
            exact ab_ev_of (ih (q + 1) left s (by omega) (by omega) (by omega) (by omega)) (by rw [nI_s q]; rfl) rfl rfl
  exact loop m 2 m (nI 1) (by omega) (by omega) (by omega) (by omega)
/-- a row of whole numbers as an array's longs, what lies behind it as it was -/
def toF (L : List Int) (g : Nat → Int64) : Nat → Int64 := fun j => if j < L.length then Int64.ofInt (L.getD j 0) else g j
theorem toF_set (L : List Int) (g : Nat → Int64) {i : Nat} (v : Int) (h : i < L.length) : vp_updL (toF L g) i (Int64.ofInt v) = toF (L.set i v) g := by
  funext j
  unfold vp_updL toF
  rw [List.length_set]
  by_cases e : j = i
  · subst e
    rw [if_pos rfl, if_pos h]
    simp [List.getD_eq_getElem?_getD, h]
  · rw [if_neg e]
    by_cases h2 : j < L.length
    · rw [if_pos h2, if_pos h2]
      simp [List.getD_eq_getElem?_getD, List.getElem?_set_ne (fun z => e z.symm)]
    · rw [if_neg h2, if_neg h2]
theorem toF_at (L : List Int) (g : Nat → Int64) {i : Nat} (h : i < L.length) : toF L g i = Int64.ofInt (L.getD i 0) := by
  unfold toF
  rw [if_pos h]
def lsI : List Int := 1 :: List.replicate 58 0
def subR (d : Nat) : Nat → List Int → List Int
  | 0, L => L
  | k + 1, L => subR d k (L.set (d + k) (L.getD (d + k) 0 - L.getD k 0))
def addR (d p : Nat) : Nat → List Int → List Int
  | 0, L => L
  | k + 1, L => addR d p k (L.set (p - k) (L.getD (p - k) 0 + L.getD (p - k - d) 0))
def pwF (N d : Nat) : Int32 := if N % d = 0 then moe (N / d) else nI 0
def lsD (p d : Nat) (pw : Int32) (L : List Int) : List Int := if pw ≤ 0 then (if 0 ≤ pw then L else addR d p (p + 1 - d) L) else subR d (p + 1 - d) L
def lsR (N p : Nat) : Nat → List Int → List Int
  | 0, L => L
  | r + 1, L => lsR N p r (lsD p (N - r) (pwF N (N - r)) L)
theorem subR_len (d : Nat) : ∀ (k : Nat) (L : List Int), (subR d k L).length = L.length
  | 0, _ => rfl
  | k + 1, L => by unfold subR; rw [subR_len d k, List.length_set]
theorem addR_len (d p : Nat) : ∀ (k : Nat) (L : List Int), (addR d p k L).length = L.length
  | 0, _ => rfl
  | k + 1, L => by unfold addR; rw [addR_len d p k, List.length_set]
theorem lsD_len (p d : Nat) (pw : Int32) (L : List Int) : (lsD p d pw L).length = L.length := by
  unfold lsD
  split
  · split
    · rfl
    · exact addR_len _ _ _ _
  · exact subR_len _ _ _
theorem c_Sums_findLeast (N p : Nat) (w : ab_W) (n : Nat) {c : Nat → Int64} (hN : N ≤ 60) (hp : p ≤ 58) (h0 : w 17 = oSums (nI N) (nI p)) (h1 : w 18 = aJ 59 c) : ab_C X l i_Sums_findLeast [.ref 17] w n 0 0 (ab_q1 none (va_up w 18 (aJ 59 (toF (lsR N p N lsI) c))) n) := by
  obtain ⟨w, rfl⟩ := va_ex2 h1 h0
  refine ab_metV cd_66 om_66 rfl rfl (ab_sound ok_66 [2] 50 ?_)
  have q9 : (ab_q1 none (va_up (va_up (va_up w 17 (oSums (nI N) (nI p))) 18 (aJ 59 c)) 18 (aJ 59 (toF (lsR N p N lsI) c))) n) = (ab_q1 none (va_up (va_up w 17 (oSums (nI N) (nI p))) 18 (aJ 59 (toF (lsR N p N lsI) c))) n) := by rw [va_uu]
  rw [q9]
  have outer : ∀ (r : Nat) (L : List Int) (l2 l3 : Option Value), r ≤ N → L.length = 59 → ab_Ev X l i_Sums_findLeast 31 [some (.ref 17), some (.int (nI (N + 1 - r))), l2, l3] [] (va_up (va_up w 17 (oSums (nI N) (nI p))) 18 (aJ 59 (toF L c))) n 0 0 (ab_q1 none (va_up (va_up w 17 (oSums (nI N) (nI p))) 18 (aJ 59 (toF (lsR N p r L) c))) n) := by
    intro r
    induction r with
    | zero =>
      intro L l2 l3 hr hL
      refine ab_sound ok_66 [31] 50 ?_
      refine And.intro (fun _ => ?_) (fun h_9 => absurd (nI_lt (by omega) (by omega)) h_9)
      exact ⟨rfl, rfl, rfl⟩
    | succ r ih =>
      intro L l2 l3 hr hL
      unfold lsR
      have hd : N + 1 - (r + 1) = N - r := by omega
      rw [hd]
      generalize hdd : N - r = d
      have fin : ∀ (L2 : List Int) (l2 l3 : Option Value), L2 = lsD p d (pwF N d) L → ab_Ev X l i_Sums_findLeast 139 [some (.ref 17), some (.int (nI d)), l2, l3] [] (va_up (va_up w 17 (oSums (nI N) (nI p))) 18 (aJ 59 (toF L2 c))) n 0 0 (ab_q1 none (va_up (va_up w 17 (oSums (nI N) (nI p))) 18 (aJ 59 (toF (lsR N p r (lsD p d (pwF N d) L)) c))) n) := by
        intro L2 l2 l3 e
        subst e
        refine ab_sound ok_66 [31] 50 ?_
        refine ab_ev_of (ih _ l2 l3 (by omega) (by rw [lsD_len]; exact hL)) ?_ rfl rfl
        rw [show N + 1 - r = d + 1 by omega, nI_s d]
        rfl
      have mid : ∀ l3 : Option Value, ab_Ev X l i_Sums_findLeast 62 [some (.ref 17), some (.int (nI d)), some (.int (pwF N d)), l3] [] (va_up (va_up w 17 (oSums (nI N) (nI p))) 18 (aJ 59 (toF L c))) n 0 0 (ab_q1 none (va_up (va_up w 17 (oSums (nI N) (nI p))) 18 (aJ 59 (toF (lsR N p r (lsD p d (pwF N d) L)) c))) n) := by
        intro l3
        refine ab_sound ok_66 [71, 108, 139] 50 ?_
        refine And.intro (fun h1 => ?_) (fun h1 => ?_)
        · refine And.intro (fun h2 => ?_) (fun h2 => ?_)
          · exact fin L _ _ (by unfold lsD; rw [if_pos h1, if_pos h2])
          · have up : ∀ (k : Nat) (L2 : List Int), k ≤ p + 1 - d → L2.length = 59 → addR d p k L2 = addR d p (p + 1 - d) L → ab_Ev X l i_Sums_findLeast 108 [some (.ref 17), some (.int (nI d)), some (.int (pwF N d)), some (.int (nI (if d ≤ p + 1 then p + 1 - k else d)))] [] (va_up (va_up w 17 (oSums (nI N) (nI p))) 18 (aJ 59 (toF L2 c))) n 0 0 (ab_q1 none (va_up (va_up w 17 (oSums (nI N) (nI p))) 18 (aJ 59 (toF (lsR N p r (lsD p d (pwF N d) L)) c))) n) := by
              intro k
              induction k with
              | zero =>
                intro L2 hk hL2 he
                refine ab_sound ok_66 [108, 139] 50 ?_
                refine And.intro (fun _ => ?_) (fun h_9 => absurd ((by split; exact nI_lt (by omega) (by omega); exact nI_lt (by omega) (by omega))) h_9)
                exact fin L2 _ _ (by unfold lsD; rw [if_pos h1, if_neg h2]; exact he)
              | succ k ih2 =>
                intro L2 hk hL2 he
                rw [if_pos (by omega), show p + 1 - (k + 1) = p - k by omega]
                refine ab_sound ok_66 [108, 139] 50 ?_
                refine And.intro (fun h_9 => absurd h_9 (nI_nlt (by omega) (by omega))) (fun _ => ?_)
                refine And.intro (vp_in_nI (by omega) (by omega)) ?_
                refine And.intro ((by rw [pk_sub (by omega)]; exact vp_in_nI (by omega) (by omega))) ?_
                refine And.intro (vp_in_nI (by omega) (by omega)) ?_
                refine ab_ev_of (ih2 (L2.set (p - k) (L2.getD (p - k) 0 + L2.getD (p - k - d) 0)) (by omega) (by rw [List.length_set]; exact hL2) he) ?_ rfl ?_
                · rw [if_pos (by omega), show p + 1 - k = p - k + 1 by omega, nI_s (p - k)]
                  rfl
                · rw [va_uu, pk_sub (by omega), nI_clamp (by omega), nI_clamp (by omega), toF_at _ _ (by omega), toF_at _ _ (by omega), ← Int64.ofInt_add, toF_set _ _ _ (by omega)]
            refine ab_ev_of (up (p + 1 - d) L (Nat.le_refl _) hL rfl) ?_ rfl rfl
            by_cases hdp : d ≤ p + 1
            · rw [if_pos hdp, show p + 1 - (p + 1 - d) = d by omega]
              rfl
            · rw [if_neg hdp]
              rfl
        · have dn : ∀ (k : Nat) (L2 : List Int), k ≤ p + 1 - d → L2.length = 59 → subR d k L2 = subR d (p + 1 - d) L → ab_Ev X l i_Sums_findLeast 71 [some (.ref 17), some (.int (nI d)), some (.int (pwF N d)), some (.int (if d ≤ p + 1 then nI (d + k) - nI 1 else nI p))] [] (va_up (va_up w 17 (oSums (nI N) (nI p))) 18 (aJ 59 (toF L2 c))) n 0 0 (ab_q1 none (va_up (va_up w 17 (oSums (nI N) (nI p))) 18 (aJ 59 (toF (lsR N p r (lsD p d (pwF N d) L)) c))) n) := by
            intro k
            induction k with
            | zero =>
              intro L2 hk hL2 he
              refine ab_sound ok_66 [71, 139] 50 ?_
              refine And.intro (fun _ => ?_) (fun h_9 => absurd ((by split; rw [pk_sub (by omega)]; exact nI_lt (by omega) (by omega); exact nI_lt (by omega) (by omega))) h_9)
              exact fin L2 _ _ (by unfold lsD; rw [if_neg h1]; exact he)
            | succ k ih2 =>
              intro L2 hk hL2 he
              rw [if_pos (by omega), pk_sub (by omega), show d + (k + 1) - 1 = d + k by omega]
              refine ab_sound ok_66 [71, 139] 50 ?_
              refine And.intro (fun h_9 => absurd h_9 (nI_nlt (by omega) (by omega))) (fun _ => ?_)
              refine And.intro (vp_in_nI (by omega) (by omega)) ?_
              refine And.intro ((by rw [pk_sub (by omega)]; exact vp_in_nI (by omega) (by omega))) ?_
              refine And.intro (vp_in_nI (by omega) (by omega)) ?_
              refine ab_ev_of (ih2 (L2.set (d + k) (L2.getD (d + k) 0 - L2.getD k 0)) (by omega) (by rw [List.length_set]; exact hL2) he) ?_ rfl ?_
              · rw [if_pos (by omega)]
                rfl
              · rw [va_uu, pk_sub (by omega), nI_clamp (by omega), nI_clamp (by omega), toF_at _ _ (by omega), toF_at _ _ (by omega), ← Int64.ofInt_sub, toF_set _ _ _ (by omega), show d + k - d = k by omega]
          refine ab_ev_of (dn (p + 1 - d) L (Nat.le_refl _) hL rfl) ?_ rfl rfl
          by_cases hdp : d ≤ p + 1
          · rw [if_pos hdp, show d + (p + 1 - d) = p + 1 by omega, pk_sub (by omega)]
            rfl
          · rw [if_neg hdp]
            rfl
      refine ab_sound ok_66 [62] 50 ?_
      refine And.intro (fun h_9 => absurd h_9 (nI_nlt (by omega) (by omega))) (fun _ => ?_)
      refine And.intro (nI_ne0 (by omega) (by omega)) ?_
      rw [pk_rem (by omega) (by omega) (by omega)]
      have hm1 : N % d ≤ N := Nat.mod_le _ _
      by_cases hz : N % d = 0
      · refine And.intro (fun h9 => absurd ((nz (by omega)).mpr hz) h9) (fun _ => ?_)
        refine And.intro (nI_ne0 (by omega) (by omega)) ?_
        have hd1 : N / d ≤ N := Nat.div_le_self _ _
        have hd2 : 1 ≤ N / d := (Nat.le_div_iff_mul_le (by omega)).mpr (by omega)
        (refine Exists.intro 0 ?_; refine ⟨0, _, Nat.zero_le _, Nat.zero_le _, c_Sums_moebius _ (N / d) (pk_div (by omega) (by omega) (by omega)) (by omega) hd2 _ _, ?_⟩; rintro _ _ _ ⟨rfl, rfl, rfl⟩)
        refine ab_ev_of (mid l3) ?_ rfl rfl
        unfold pwF
        rw [if_pos hz]
        rfl
      · refine And.intro (fun _ => ?_) (fun h9 => absurd ((nz (by omega)).mp h9) hz)
        refine ab_ev_of (mid l3) ?_ rfl rfl
        unfold pwF
        rw [if_neg hz]
        rfl
  have first : ∀ i, i ≤ 59 → ab_Ev X l i_Sums_findLeast 2 [some (.ref 17), some (.int (nI i)), none, none] [] (va_up (va_up w 17 (oSums (nI N) (nI p))) 18 (aJ 59 (toF (lsI.take i) c))) n 0 0 (ab_q1 none (va_up (va_up w 17 (oSums (nI N) (nI p))) 18 (aJ 59 (toF (lsR N p N lsI) c))) n) := by
    refine ab_up 59 ?_ (fun i hi ih => ?_)
    · refine ab_sound ok_66 [2, 31] 50 ?_
      refine And.intro (fun _ => ?_) (fun h_9 => absurd (nI_lt (by omega) (by omega)) h_9)
      refine ab_ev_of (outer N lsI none none (Nat.le_refl _) rfl) ?_ rfl rfl
      rw [show N + 1 - N = 1 by omega]
      rfl
    · have hlen : (lsI.take i).length = i := by rw [List.length_take]; exact Nat.min_eq_left (by show i ≤ 59; omega)
      have key : ∀ v : Int64, v = Int64.ofInt (lsI.getD i 0) → vp_updL (toF (lsI.take i) c) i v = toF (lsI.take (i + 1)) c := by
        intro v hv
        subst hv
        funext j
        have hlen2 : (lsI.take (i + 1)).length = i + 1 := by rw [List.length_take]; exact Nat.min_eq_left (by show i + 1 ≤ 59; omega)
        unfold vp_updL toF
        rw [hlen, hlen2]
        by_cases e : j = i
        · rw [if_pos e, if_pos (by omega), e]
          simp [List.getD_eq_getElem?_getD, List.getElem?_take]
        · rw [if_neg e]
          by_cases h2 : j < i
          · rw [if_pos h2, if_pos (by omega)]
            simp [List.getD_eq_getElem?_getD, List.getElem?_take, h2, show j < i + 1 by omega]
          · rw [if_neg h2, if_neg (by omega)]
      refine ab_sound ok_66 [2, 31] 50 ?_
      refine And.intro (fun h_9 => absurd h_9 (nI_nlt (by omega) (by omega))) (fun _ => ?_)
      by_cases h0 : i = 0
      · subst h0
        refine And.intro (fun h9 => absurd rfl h9) (fun _ => ?_)
        refine And.intro (vp_in_nI (by omega) (by omega)) ?_
        refine ab_ev_of ih rfl rfl ?_
        rw [va_uu, nI_clamp (by omega)]
        exact congrArg (fun z => va_up _ 18 (aJ 59 z)) (key (lN (1 : Fin 2).val) rfl)
      · refine And.intro (fun _ => ?_) (fun h9 => absurd ((nz (by omega)).mp h9) h0)
        refine And.intro (vp_in_nI (by omega) (by omega)) ?_
        refine ab_ev_of ih (by rw [nI_s i]; rfl) rfl ?_
        rw [va_uu, nI_clamp (by omega), key]
        obtain ⟨i, rfl⟩ : ∃ k, i = k + 1 := ⟨i - 1, by omega⟩
        unfold lsI
        rw [List.getD_cons_succ, List.getD_eq_getElem?_getD, List.getElem?_replicate]
        split <;> rfl
  refine ab_ev_of (first 0 (by omega)) rfl rfl ?_
  have : toF (lsI.take 0) c = c := by
    funext j
    unfold toF
    simp
  rw [this]
/-- how many of 1 .. k have no divisor in common with N -/
def cp (N : Nat) : Nat → Nat
  | 0 => 0
  | k + 1 => cp N k + (if Nat.gcd (k + 1) N = 1 then 1 else 0)
theorem cp_le (N : Nat) : ∀ k, cp N k ≤ k
  | 0 => Nat.le_refl _
  | k + 1 => by
    have := cp_le N k
    unfold cp
    split <;> omega
def phi (N : Nat) : Nat := cp N N
theorem phi_le : ∀ N, N ≤ 60 → phi N ≤ 58 := by decide +kernel
theorem phi_ge : ∀ N, N ≤ 60 → 3 ≤ N → 2 ≤ phi N := by decide +kernel
theorem phi_lt : ∀ N, N ≤ 60 → 3 ≤ N → phi N < N := by decide +kernel
def least (N : Nat) : List Int := lsR N (phi N) N lsI
theorem lsR_len (N p : Nat) : ∀ (r : Nat) (L : List Int), (lsR N p r L).length = L.length
  | 0, _ => rfl
  | r + 1, L => by unfold lsR; rw [lsR_len N p r, lsD_len]
theorem least_len (N : Nat) : (least N).length = 59 := lsR_len _ _ _ _
theorem c_Sums_choose_same (x : Int32) (w : ab_W) (n : Nat) {v p : Int32} (hx : x = v) (h0 : w 17 = oSums v p) : ab_C X l i_Sums_choose [.ref 17, .int x] w n 0 0 (ab_q1 none w n) := by
  subst hx
  obtain ⟨w, rfl⟩ := va_ex h0
  refine ab_metV cd_65 om_65 rfl rfl (ab_sound ok_65 [] 50 ?_)
  refine And.intro (fun _ => ?_) (fun h_9 => absurd (rfl) h_9)
  exact ⟨rfl, rfl, rfl⟩
theorem c_Sums_choose (x : Int32) (N : Nat) (w : ab_W) (n : Nat) {v p : Int32} {c : Nat → Int64} (hx : x = nI N) (hv : nI N ≠ v) (hN : N ≤ 60) (hN3 : 3 ≤ N) (h0 : w 17 = oSums v p) (h1 : w 18 = aJ 59 c) : ab_C X l i_Sums_choose [.ref 17, .int x] w n 0 0 (ab_q1 none (va_up (va_up w 17 (oSums (nI N) (nI (phi N)))) 18 (aJ 59 (toF (least N) c))) n) := by
  subst hx
  obtain ⟨w, rfl⟩ := va_ex2 h1 h0
  refine ab_metV cd_65 om_65 rfl rfl (ab_sound ok_65 [32] 50 ?_)
  refine And.intro (fun h9 => absurd h9 hv) (fun _ => ?_)
  refine And.intro (fun h_9 => absurd h_9 (nI_nlt (by omega) (by omega))) (fun _ => ?_)
  refine And.intro (fun _ => ?_) (fun h_9 => absurd (nI_le hN (by omega)) h_9)
  have loop : ∀ i, i ≤ N → ab_Ev X l i_Sums_choose 32 [some (.ref 17), some (.int (nI N)), some (.int (nI (i + 1)))] [] (va_up (va_up w 17 (oSums (nI N) (nI (cp N i)))) 18 (aJ 59 c)) n 0 0 (ab_q1 none (va_up (va_up (va_up (va_up w 17 (oSums v p)) 18 (aJ 59 c)) 17 (oSums (nI N) (nI (phi N)))) 18 (aJ 59 (toF (least N) c))) n) := by
    refine ab_up N ?_ (fun i hi ih => ?_)
    · refine ab_sound ok_65 [32] 50 ?_
      refine And.intro (fun _ => ?_) (fun h_9 => absurd (nI_lt (by omega) (by omega)) h_9)
      (refine Exists.intro 0 ?_; refine ⟨0, _, Nat.zero_le _, Nat.zero_le _, c_Sums_findLeast N (phi N) _ _ hN (phi_le N hN) rfl rfl, ?_⟩; rintro _ _ _ ⟨rfl, rfl, rfl⟩)
      exact ⟨rfl, (by first | rfl | (simp only [va_uu, va_uc, Nat.reduceLT]; rfl)), rfl⟩
    · have hc := cp_le N i
      refine ab_sound ok_65 [32] 50 ?_
      refine And.intro (fun h_9 => absurd h_9 (nI_nlt (by omega) (by omega))) (fun _ => ?_)
      have t1 : (nI (i + 1)).toInt64.toInt = ((i + 1 : Nat) : Int) := by rw [nI_l (by omega)]; exact lN_toInt (by omega)
      have t2 : (nI N).toInt64.toInt = (N : Int) := by rw [nI_l (by omega)]; exact lN_toInt (by omega)
      (refine Exists.intro 0 ?_; refine ⟨0, _, Nat.zero_le _, Nat.zero_le _, c_commonDivisor _ _ (by rw [t1]; omega) (by rw [t2]; omega) _ _, ?_⟩; rintro _ _ _ ⟨rfl, rfl, rfl⟩)
      have e : Nat.gcd (nI (i + 1)).toInt64.toInt.natAbs (nI N).toInt64.toInt.natAbs = Nat.gcd (i + 1) N := by rw [t1, t2]; rfl
      rw [e]
      have hg : Nat.gcd (i + 1) N ≤ N := Nat.gcd_le_right _ (by omega)
      by_cases h1 : Nat.gcd (i + 1) N = 1
      · refine And.intro (fun h9 => absurd (by rw [h1]; exact lg_eq.mpr rfl) h9) (fun _ => ?_)
        refine ab_ev_of ih (by rw [nI_s (i + 1)]; rfl) rfl ?_
        have e2 : cp N (i + 1) = cp N i + 1 := by show cp N i + _ = _; rw [if_pos h1]
        rw [e2, nI_s (cp N i)]
        exact (by first | rfl | (simp only [va_uu, va_uc, Nat.reduceLT]; rfl))
      · refine And.intro (fun _ => ?_) (fun h9 => absurd ((lN_eq (b := 1) (by omega) (by omega)).mp (lg_eq.mp h9)) h1)
        refine ab_ev_of ih (by rw [nI_s (i + 1)]; rfl) rfl ?_
        have e2 : cp N (i + 1) = cp N i := by show cp N i + _ = _; rw [if_neg h1]; rfl
        rw [e2]
  exact ab_ev_of (loop 0 (by omega)) rfl rfl (by first | rfl | (simp only [va_uu, va_uc, Nat.reduceLT]; rfl))
end LEAST
