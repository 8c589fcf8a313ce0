section SHEET2
variable {X : ab_X} {l : Launch}
/-- the greatest of f 0 .. f (n - 1) -/
def maxN (f : Nat → Nat) : Nat → Nat
  | 0 => 0
  | k + 1 => if f k ≤ maxN f k then maxN f k else f k
theorem maxN_le (f : Nat → Nat) (B : Nat) (h : ∀ k, f k ≤ B) : ∀ n, maxN f n ≤ B
  | 0 => Nat.zero_le _
  | n + 1 => by
    unfold maxN
    split
    · exact maxN_le f B h n
    · exact h n
def often (p : Nat) (R : Nat → Nat → Int64) (N k : Nat) : Nat := cnt (fun j => lkB p (R j) (R k)) N
theorem c_Sheet_mostOften (q a N : Nat) {R : Nat → Nat → Int64} (w : ab_W) (n : Nat) (hN : N ≤ 60) (h : ShIs w q N a R) : ab_C X l i_Sheet_mostOften [.ref q] w n 0 0 (ab_q1 (some (.int (nI (maxN (often (phi N) R N) N)))) w n) := by
  refine ab_metI cd_60 om_60 rfl (ab_sound ok_60 [4] 50 ?_)
  have hb : ∀ k, often (phi N) R N k ≤ 60 := fun k => Nat.le_trans (cnt_le _ _) hN
  have loop : ∀ k, k ≤ N → ∀ (l3 l4 : Option Value), ab_Ev X l i_Sheet_mostOften 4 [some (.ref q), some (.int (nI (maxN (often (phi N) R N) k))), some (.int (nI k)), l3, l4] [] w n 0 0 (ab_q1 (some (.int (nI (maxN (often (phi N) R N) N)))) w n) := by
    refine ab_up N ?_ (fun k hk ih => ?_)
    · intro l3 l4
      refine ab_sound ok_60 [4] 50 ?_
      refine Exists.intro _ (Exists.intro _ (And.intro h.1 (And.intro rfl ?_)))
      refine And.intro (fun _ => ?_) (fun h_9 => absurd (nI_le (Nat.le_refl _) (by omega)) h_9)
      exact ⟨rfl, rfl, rfl⟩
    · intro l3 l4
      have hm := maxN_le (often (phi N) R N) 60 hb k
      refine ab_sound ok_60 [4, 17] 50 ?_
      refine Exists.intro _ (Exists.intro _ (And.intro h.1 (And.intro rfl ?_)))
      refine And.intro (fun h_9 => absurd h_9 (nI_ge (by omega) (by omega))) (fun _ => ?_)
      have inn : ∀ j, j ≤ N → ab_Ev X l i_Sheet_mostOften 17 [some (.ref q), some (.int (nI (maxN (often (phi N) R N) k))), some (.int (nI k)), some (.int (nI (cnt (fun j => lkB (phi N) (R j) (R k)) j))), some (.int (nI j))] [] w n 0 0 (ab_q1 (some (.int (nI (maxN (often (phi N) R N) N)))) w n) := by
        refine ab_up N ?_ (fun j hj ih2 => ?_)
        · refine ab_sound ok_60 [4, 17] 50 ?_
          refine Exists.intro _ (Exists.intro _ (And.intro h.1 (And.intro rfl ?_)))
          refine And.intro (fun _ => ?_) (fun h_9 => absurd (nI_le (Nat.le_refl _) (by omega)) h_9)
          have hu : maxN (often (phi N) R N) (k + 1) = if often (phi N) R N k ≤ maxN (often (phi N) R N) k then maxN (often (phi N) R N) k else often (phi N) R N k := rfl
          have hbk := hb k
          rw [hu] at ih
          by_cases hc : often (phi N) R N k ≤ maxN (often (phi N) R N) k
          · rw [if_pos hc] at ih
            refine And.intro (fun _ => ?_) (fun h_9 => absurd (nI_le hc (by omega)) h_9)
            exact ab_ev_of (ih (some (.int (nI (often (phi N) R N k)))) (some (.int (nI N)))) (by rw [nI_s k]; rfl) rfl rfl
          · rw [if_neg hc] at ih
            refine And.intro (fun h_9 => absurd h_9 (nI_ge (show maxN (often (phi N) R N) k < often (phi N) R N k by omega) (Nat.lt_of_le_of_lt (hb k) (by omega)))) (fun _ => ?_)
            exact ab_ev_of (ih (some (.int (nI (often (phi N) R N k)))) (some (.int (nI N)))) (by rw [nI_s k]; rfl) rfl rfl
        · refine ab_sound ok_60 [4, 17] 50 ?_
          refine Exists.intro _ (Exists.intro _ (And.intro h.1 (And.intro rfl ?_)))
          refine And.intro (fun h_9 => absurd h_9 (nI_ge hj (by omega))) (fun _ => ?_)
          refine And.intro (⟨_, h.1⟩) ?_
          (refine Exists.intro 0 ?_; refine ⟨0, _, Nat.zero_le _, Nat.zero_le _, c_Sheet_isLike _ _ q a q a N j k _ _ rfl rfl hN hj hk h h, ?_⟩; rintro _ _ _ ⟨rfl, rfl, rfl⟩)
          have hu : cnt (fun j => lkB (phi N) (R j) (R k)) (j + 1) = cnt (fun j => lkB (phi N) (R j) (R k)) j + (if lkB (phi N) (R j) (R k) = true then 1 else 0) := rfl
          rw [hu] at ih2
          refine And.intro (fun hc => ?_) (fun hc => ?_)
          · rw [b01_0] at hc
            rw [hc, if_neg (by decide)] at ih2
            exact ab_ev_of ih2 (by rw [nI_s j]; rfl) rfl rfl
          · rw [b01_0, Bool.not_eq_false] at hc
            rw [hc, if_pos rfl] at ih2
            exact ab_ev_of ih2 (by rw [nI_s j, nI_s (cnt _ j)]; rfl) rfl rfl
      exact ab_ev_of (inn 0 (by omega)) rfl rfl rfl
  exact loop 0 (by omega) none none
/-- the rows come round after m -/
def roundB (p : Nat) (R : Nat → Nat → Int64) (N m : Nat) : Bool := decide (∀ k, k < N → lkB p (R k) (R ((k + m) % N)) = true)
theorem c_Sheet_comesRound (x : Int32) (q a N m : Nat) {R : Nat → Nat → Int64} (w : ab_W) (n : Nat) (hx : x = nI m) (hm : m < 1000) (hN : N ≤ 60) (hN3 : 3 ≤ N) (h : ShIs w q N a R) : ab_C X l i_Sheet_comesRound [.ref q, .int x] w n 0 0 (ab_q1 (some (.int (b01 (roundB (phi N) R N m)))) w n) := by
  subst hx
  refine ab_metI cd_63 om_63 rfl (ab_sound ok_63 [2] 50 ?_)
  have loop : ∀ k, k ≤ N → (∀ j, j < k → lkB (phi N) (R j) (R ((j + m) % N)) = true) → ab_Ev X l i_Sheet_comesRound 2 [some (.ref q), some (.int (nI m)), some (.int (nI k))] [] w n 0 0 (ab_q1 (some (.int (b01 (roundB (phi N) R N m)))) w n) := by
    refine ab_up N ?_ (fun k hk ih => ?_)
    · intro hj
      refine ab_sound ok_63 [2] 50 ?_
      refine Exists.intro _ (Exists.intro _ (And.intro h.1 (And.intro rfl ?_)))
      refine And.intro (fun _ => ?_) (fun h_9 => absurd (nI_le (Nat.le_refl _) (by omega)) h_9)
      have e : roundB (phi N) R N m = true := decide_eq_true hj
      rw [e]
      exact ⟨rfl, rfl, rfl, rfl⟩
    · intro hj
      refine ab_sound ok_63 [2] 50 ?_
      refine Exists.intro _ (Exists.intro _ (And.intro h.1 (And.intro rfl ?_)))
      refine And.intro (fun h_9 => absurd h_9 (nI_ge hk (by omega))) (fun _ => ?_)
      refine Exists.intro _ (Exists.intro _ (And.intro h.1 (And.intro rfl ?_)))
      (refine Exists.intro 0 ?_; refine ⟨0, _, Nat.zero_le _, Nat.zero_le _, c_WP_wrap _ N (by omega) (by omega) _ _, ?_⟩; rintro _ _ _ ⟨rfl, rfl, rfl⟩)
      have e1 : md (nI k + nI m).toInt N = (k + m) % N := by rw [nI_add, nI_toInt (by omega), md_nat]
      have hlt : (k + m) % N < N := Nat.mod_lt _ (by omega)
      rw [e1]
      refine And.intro (⟨_, h.1⟩) ?_
      (refine Exists.intro 0 ?_; refine ⟨0, _, Nat.zero_le _, Nat.zero_le _, c_Sheet_isLike _ _ q a q a N k ((k + m) % N) _ _ rfl rfl hN hk hlt h h, ?_⟩; rintro _ _ _ ⟨rfl, rfl, rfl⟩)
      refine And.intro (fun hc => ?_) (fun hc => ?_)
      · have hc : lkB (phi N) (R k) (R ((k + m) % N)) = true := by
          cases hb : lkB (phi N) (R k) (R ((k + m) % N)) with
          | true => rfl
          | false => rw [hb] at hc; exact absurd rfl hc
        refine ab_ev_of (ih (fun j hj2 => ?_)) (by rw [nI_s k]; rfl) rfl rfl
        by_cases e : j = k
        · rw [e]; exact hc
        · exact hj j (by omega)
      · rw [b01_0] at hc
        have e : roundB (phi N) R N m = false := by
          rw [← Bool.not_eq_true]
          intro z
          have := of_decide_eq_true z k hk
          rw [hc] at this
          cases this
        rw [e]
        exact ⟨rfl, rfl, rfl, rfl⟩
  exact loop 0 (by omega) (fun j hj => by omega)
theorem c_Sheet_period (q a N : Nat) {R : Nat → Nat → Int64} (w : ab_W) (n : Nat) (hN : N ≤ 60) (hN3 : 3 ≤ N) (h : ShIs w q N a R) : ab_C X l i_Sheet_period [.ref q] w n 0 0 (ab_q1 (some (.int (nI (fst (roundB (phi N) R N) (N - 1) 1)))) w n) := by
  refine ab_metI cd_62 om_62 rfl (ab_sound ok_62 [2] 50 ?_)
  have loop : ∀ (r m : Nat), m + r = N → ab_Ev X l i_Sheet_period 2 [some (.ref q), some (.int (nI m))] [] w n 0 0 (ab_q1 (some (.int (nI (fst (roundB (phi N) R N) r m)))) w n) := by
    intro r
    induction r with
    | zero =>
      intro m hm
      refine ab_sound ok_62 [2] 50 ?_
      refine Exists.intro _ (Exists.intro _ (And.intro h.1 (And.intro rfl ?_)))
      refine And.intro (fun _ => ?_) (fun h_9 => absurd (nI_le (by omega) (by omega)) h_9)
      refine Exists.intro _ (Exists.intro _ (And.intro h.1 (And.intro rfl ?_)))
      refine ⟨?_, rfl, rfl⟩
      unfold fst
      rw [show m = N by omega]
    | succ r ih =>
      intro m hm
      refine ab_sound ok_62 [2] 50 ?_
      refine Exists.intro _ (Exists.intro _ (And.intro h.1 (And.intro rfl ?_)))
      refine And.intro (fun h_9 => absurd h_9 (nI_ge (by omega) (by omega))) (fun _ => ?_)
      refine And.intro (⟨_, h.1⟩) ?_
      (refine Exists.intro 0 ?_; refine ⟨0, _, Nat.zero_le _, Nat.zero_le _, c_Sheet_comesRound _ q a N m _ _ rfl (by omega) hN hN3 h, ?_⟩; rintro _ _ _ ⟨rfl, rfl, rfl⟩)
      rw [fst_s]
      refine And.intro (fun hc => ?_) (fun hc => ?_)
      · rw [b01_0] at hc
        rw [hc, if_neg (by decide)]
        exact ab_ev_of (ih (m + 1) (by omega)) (by rw [nI_s m]; rfl) rfl rfl
      · rw [b01_0, Bool.not_eq_false] at hc
        rw [hc, if_pos rfl]
        exact ⟨rfl, rfl, rfl⟩
  exact loop (N - 1) 1 (by omega)
/-- the numbers that are being filled in -/
def flF (m : Nat) (g : Nat → Int64) (f : Nat → Int32) : Nat → Int32 := fun j => if j < m then (g j).toInt32 else f j
theorem flF_0 (g : Nat → Int64) (f : Nat → Int32) : flF 0 g f = f := by
  funext j
  unfold flF
  rw [if_neg (by omega)]
theorem flF_s (m : Nat) (g : Nat → Int64) (f : Nat → Int32) : upd (flF m g f) m (g m).toInt32 = flF (m + 1) g f := by
  funext j
  unfold upd flF
  by_cases e : j = m
  · rw [if_pos e, if_pos (by omega), e]
  · rw [if_neg e]
    by_cases h : j < m
    · rw [if_pos h, if_pos (by omega)]
    · rw [if_neg h, if_neg (by omega)]
theorem va_u2 {α : Type} {f : Nat → α} {j k : Nat} {a b : α} (h : j ≠ k) : va_up (va_up f j a) k b = va_up (va_up f k b) j a := by
  rcases Nat.lt_or_gt_of_ne h with g | g
  · exact (va_uc g).symm
  · exact va_uc g
/-- the end of fill: from its loop's head on -/
theorem e_Sheet_fill (q a N p : Nat) (w : ab_W) (n bc bs : Nat) {f : Nat → Int32} {g : Nat → Int64} {l3 : Option Value} (hN : N ≤ 60) (hp : p ≤ 58) (hqa : q ≠ a) (hq43 : q ≠ 43) (ha43 : a ≠ 43) (h0 : w q = oSheet (nI N) (nI p) a) (h1 : w a = aI 3480 f) (h2 : w 43 = aJ 3480 g) : ab_Ev X l i_Sheet_fill 33 [some (.ref q), some (.int (nI N)), some (.int (nI p)), some (.ref 43), some (.int (nI 0))] [] w n bc bs (ab_q1 none (va_up w a (aI 3480 (flF (N * p) g f))) n) := by
  have hNp : N * p ≤ 60 * 58 := Nat.mul_le_mul hN hp
  have loop : ∀ i, i ≤ N * p → ab_Ev X l i_Sheet_fill 33 [some (.ref q), some (.int (nI N)), some (.int (nI p)), some (.ref 43), some (.int (nI i))] [] (va_up w a (aI 3480 (flF i g f))) n bc bs (ab_q1 none (va_up w a (aI 3480 (flF (N * p) g f))) n) := by
    refine ab_up (N * p) ?_ (fun i hi ih => ?_)
    · have k0 : va_up w a (aI 3480 (flF (N * p) g f)) q = oSheet (nI N) (nI p) a := (va_un hqa).trans h0
      refine ab_sound ok_54 [33] 50 ?_
      refine Exists.intro _ (Exists.intro _ (And.intro k0 (And.intro rfl ?_)))
      refine Exists.intro _ (Exists.intro _ (And.intro k0 (And.intro rfl ?_)))
      refine And.intro (fun _ => ?_) (fun h_9 => absurd ((by rw [pk_mul]; exact nI_le (Nat.le_refl _) (by omega))) h_9)
      exact ⟨rfl, rfl, rfl⟩
    · have k0 : va_up w a (aI 3480 (flF i g f)) q = oSheet (nI N) (nI p) a := (va_un hqa).trans h0
      have k1 : va_up w a (aI 3480 (flF i g f)) a = aI 3480 (flF i g f) := va_us
      have k2 : va_up w a (aI 3480 (flF i g f)) 43 = aJ 3480 g := (va_un (fun z => ha43 z.symm)).trans h2
      refine ab_sound ok_54 [58] 50 ?_
      refine Exists.intro _ (Exists.intro _ (And.intro k0 (And.intro rfl ?_)))
      refine Exists.intro _ (Exists.intro _ (And.intro k0 (And.intro rfl ?_)))
      refine And.intro (fun h_9 => absurd h_9 ((by rw [pk_mul]; exact nI_ge hi (by omega)))) (fun _ => ?_)
      refine And.intro (fun h_9 => absurd h_9 (nI_ge (by omega) (by omega))) (fun _ => ?_)
      refine ab_x_alen1 (ab_dec ok_54 58 rfl) k2 ?_
      refine ab_sound ok_54 [71] 50 ?_
      refine And.intro (fun h_9 => absurd h_9 (nI_ge (by omega) (by omega))) (fun _ => ?_)
      refine Exists.intro _ (Exists.intro _ (And.intro k0 (And.intro rfl ?_)))
      refine ab_x_laload (ab_dec ok_54 71 rfl) k2 (vp_in_nI (by omega) (by omega)) ?_
      refine ab_sound ok_54 [73] 50 ?_
      refine ab_x_iastore (ab_dec ok_54 73 rfl) k1 (vp_in_nI (by omega) (by omega)) ?_
      refine ab_sound ok_54 [33] 50 ?_
      refine ab_ev_of ih (by rw [nI_s i]; rfl) rfl ?_
      rw [va_uu, nI_clamp (by omega), flF_s]
  refine ab_ev_of (loop 0 (by omega)) rfl rfl ?_
  rw [flF_0]
  exact va_self h1
theorem c_Sheet_fill_old (q a N p : Nat) (w : ab_W) (n : Nat) {mc ms : Nat} {v0 p0 : Int32} {f : Nat → Int32} {g : Nat → Int64} (hN : N ≤ 60) (hp : p ≤ 58) (hqa : q ≠ a) (hq43 : q ≠ 43) (ha43 : a ≠ 43) (h0 : w q = oSheet v0 p0 a) (h1 : w a = aI 3480 f) (h2 : w 43 = aJ 3480 g) : ab_C X l i_Sheet_fill [.ref q, .int (nI N), .int (nI p), .ref 43] w n mc ms (ab_q1 none (va_up (va_up w q (oSheet (nI N) (nI p) a)) a (aI 3480 (flF (N * p) g f))) n) := by
  refine ab_metV cd_54 om_54 rfl rfl (ab_sound ok_54 [4] 50 ?_)
  refine Exists.intro _ (Exists.intro _ (And.intro h0 (And.intro rfl ?_)))
  refine ab_x_alen0 (ab_dec ok_54 4 rfl) h1 ?_
  refine ab_sound ok_54 [33] 50 ?_
  refine And.intro (fun _ => ?_) (fun h_9 => absurd (nI_le (Nat.le_refl _) (by omega)) h_9)
  refine Exists.intro _ (And.intro h0 (And.intro (by show 0 < 3; omega) ?_))
  refine Exists.intro _ (And.intro va_us (And.intro (by show 1 < 3; omega) ?_))
  refine ab_ev_of (e_Sheet_fill q a N p _ n mc ms (f := f) (g := g) (l3 := none) hN hp hqa hq43 ha43 va_us ((va_un (fun z => hqa z.symm)).trans h1) ((va_un (fun z => hq43 z.symm)).trans h2)) rfl rfl ?_
  rw [va_uu]
  rfl
theorem c_Sheet_fill_new (q a N p : Nat) (w : ab_W) (n : Nat) {v0 p0 : Int32} {f : Nat → Int32} {g : Nat → Int64} (hN : N ≤ 60) (hp : p ≤ 58) (hqn : q ≠ n) (hq43 : q ≠ 43) (hn43 : n ≠ 43) (h0 : w q = oSheet v0 p0 a) (h1 : w a = aI 0 f) (h2 : w 43 = aJ 3480 g) : ab_C X l i_Sheet_fill [.ref q, .int (nI N), .int (nI p), .ref 43] w n 1 3480 (ab_q1 none (va_up (va_up w q (oSheet (nI N) (nI p) n)) n (aI 3480 (flF (N * p) g (fun _ => 0)))) (n + 1)) := by
  refine ab_metV cd_54 om_54 rfl rfl (ab_sound ok_54 [4] 50 ?_)
  refine Exists.intro _ (Exists.intro _ (And.intro h0 (And.intro rfl ?_)))
  refine ab_x_alen0 (ab_dec ok_54 4 rfl) h1 ?_
  refine ab_sound ok_54 [33] 50 ?_
  refine And.intro (fun h_9 => absurd h_9 (nI_ge (by omega) (by omega))) (fun _ => ?_)
  refine And.intro ⟨nI_pos (by omega), nI_clamp (by omega), Nat.le_refl _, Nat.le_refl _⟩ ?_
  refine Exists.intro _ (And.intro ((va_un hqn).trans h0) (And.intro (by show 2 < 3; omega) ?_))
  refine Exists.intro _ (And.intro va_us (And.intro (by show 0 < 3; omega) ?_))
  refine Exists.intro _ (And.intro va_us (And.intro (by show 1 < 3; omega) ?_))
  have key := e_Sheet_fill (X := X) (l := l) q n N p (va_up (va_up w n (aI 3480 fun _ => 0)) q (oSheet (nI N) (nI p) n)) (n + 1) 0 0 (f := fun _ => 0) (g := g) (l3 := none) hN hp hqn hq43 hn43 va_us ((va_un (fun z => hqn z.symm)).trans va_us) ((va_un (fun z => hq43 z.symm)).trans ((va_un (fun z => hn43 z.symm)).trans h2))
  have e9 : va_up (va_up (va_up w n (aI 3480 fun _ => 0)) q (oSheet (nI N) (nI p) n)) n (aI 3480 (flF (N * p) g fun _ => 0)) = va_up (va_up w q (oSheet (nI N) (nI p) n)) n (aI 3480 (flF (N * p) g fun _ => 0)) := by
    rw [va_u2 (f := w) (fun z => hqn z.symm), va_uu]
  rw [e9] at key
  refine ab_ev_of key rfl rfl ?_
  rw [va_uu, va_uu]
  rfl
end SHEET2
