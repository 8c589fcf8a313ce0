/-! the law's loop: its words -/
abbrev LL (i : Nat) (a5 a6 a7 : Option Value) : ab_L := [some (.retAddr 1000), some (.ref 0), some (.ref 90), some (.ref 134), some (.int (nI i)), a5, a6, a7]
def LQ : ab_Q := fun v _ _ => v = some (.int (nI 1))
/-- the loop goes on -/
def NX (X : ab_X) (l : Launch) (i c b : Nat) : Prop := ∀ (w : ab_W) (n : Nat) (a5 a6 a7 : Option Value), IV w n → ab_Ev X l 259 1339 (LL i a5 a6 a7) [] w n c b LQ
/-- a case of the law's switch -/
def CS (X : ab_X) (l : Launch) (i pc : Nat) : Prop := ∀ (w : ab_W) (n : Nat) (a5 a6 a7 : Option Value) (c b : Nat), IV w n → NX X l i c b → ab_Ev X l 259 pc (LL i a5 a6 a7) [] w n (c + 1) (b + 3480) LQ
section LAWW
variable {X : ab_X} {l : Launch} {w : ab_W} {n i : Nat}
theorem lw_more {y pc : Nat} {ls : ab_L} {st : List Value} {bc bs bc' bs' : Nat} {Q : ab_Q} (h : ab_Ev X l y pc ls st w n bc bs Q) (h1 : bc ≤ bc') (h2 : bs ≤ bs') : ab_Ev X l y pc ls st w n bc' bs' Q := by
  intro p e R s m args below meth c A ad0 Z hB hF H locs cells slots ad ws lsr str hh hl hs hc hsl
  exact h p e R s m args below meth c A ad0 Z hB hF H locs cells slots ad ws lsr str hh hl hs (by omega) (by omega)
theorem vpi {j sl : Nat} (h : i + 6 ≤ sl) (hs : sl ≤ 3072) (hj : j < 6) : vp_in (nI i + nI j) sl := by
  rw [nI_add]
  exact vp_in_nI (by omega) (by omega)
theorem IV.heads (h : IV w n) : ∃ kn ks lf s wd tn, w 0 = oWP kn ks lf ∧ w 90 = oMod s wd tn := by
  obtain ⟨L, tb, kn, ks, lf, N, R, K, nr, nw, np, T, S, Y, Z, s, wd, tn, -, hc, hm, -⟩ := h
  exact ⟨kn, ks, lf, s, wd, tn, hc.w0, hm.w90⟩
end LAWW
