/-! one sign read -/
def sgB (c : Int32) : Bool := decide (c = nI 59 ∨ c = nI 47 ∨ c = nI 45 ∨ c = nI 43)
def sgK (c : Int32) : Int32 := if sgB c = true then nI 4 else nI 1
section SIGN
variable {X : ab_X} {l : Launch}
theorem c_Tape_readSign (p : Nat) (w : ab_W) (n : Nat) {a b d e f : Int32} {tb : Nat → Int32} (hp : p < 640) (h1 : w 1 = oTape a b (nI p) d e f) (h2 : w 2 = aI 640 tb) :
    ab_C X l i_Tape_readSign [.ref 1] w n 0 0 (ab_q1 none (va_up w 1 (oTape a b (nI (p + 1)) (sgK (tb p)) e (tb p))) n) := by
  obtain ⟨w, rfl⟩ := va_ex2 h1 h2
  rw [va_uu]
  have fin : ∀ q : Bool, q = sgB (tb p) → ab_Ev X l i_Tape_readSign 63 [some (.ref 1), none] [.int (b01 q)] (va_up (va_up w 2 (aI 640 tb)) 1 (oTape a b (nI (p + 1)) d e (tb p))) n 0 0 (ab_q1 none (va_up (va_up w 2 (aI 640 tb)) 1 (oTape a b (nI (p + 1)) (sgK (tb p)) e (tb p))) n) := by
    intro q hq
    unfold sgK
    rw [← hq]
    cases q
    · refine ab_sound ok_85 [] 80 ?_
      refine And.intro (fun _ => ?_) (fun h_9 => absurd (rfl) h_9)
      exact ⟨rfl, (by first | rfl | (simp only [va_uu, va_uc, Nat.reduceLT]; done) | (simp only [va_uu, va_uc, Nat.reduceLT]; rfl)), rfl⟩
    · refine ab_sound ok_85 [] 80 ?_
      refine And.intro (fun h_9 => absurd h_9 ((by decide))) (fun _ => ?_)
      exact ⟨rfl, (by first | rfl | (simp only [va_uu, va_uc, Nat.reduceLT]; done) | (simp only [va_uu, va_uc, Nat.reduceLT]; rfl)), rfl⟩
  have at22 : ab_Ev X l i_Tape_readSign 22 [some (.ref 1), none] [] (va_up (va_up w 2 (aI 640 tb)) 1 (oTape a b (nI (p + 1)) d e (tb p))) n 0 0 (ab_q1 none (va_up (va_up w 2 (aI 640 tb)) 1 (oTape a b (nI (p + 1)) (sgK (tb p)) e (tb p))) n) := by
    refine ab_sound ok_85 [63] 80 ?_
    unfold sgB at fin
    refine And.intro (fun e1 => ?_) (fun e1 => ?_)
    · exact fin true (decide_eq_true (Or.inl e1)).symm
    refine And.intro (fun e2 => ?_) (fun e2 => ?_)
    · exact fin true (decide_eq_true (Or.inr (Or.inl e2))).symm
    refine And.intro (fun e3 => ?_) (fun e3 => ?_)
    · exact fin true (decide_eq_true (Or.inr (Or.inr (Or.inl e3)))).symm
    refine And.intro (fun e4 => ?_) (fun e4 => ?_)
    · exact fin false (decide_eq_false (fun z => z.elim e1 (fun z => z.elim e2 (fun z => z.elim e3 e4)))).symm
    · exact fin true (decide_eq_true (Or.inr (Or.inr (Or.inr e4)))).symm
  refine ab_metV cd_85 om_85 rfl rfl (ab_sound ok_85 [22] 80 ?_)
  (refine Exists.intro 0 ?_; refine ⟨0, _, Nat.zero_le _, Nat.zero_le _, c_Tape_byteAt _ p _ _ rfl hp rfl rfl, ?_⟩; refine ab_q1_elim ?_)
  exact ab_ev_of at22 rfl rfl (by rw [va_uu, va_uu, nI_s p]; rfl)
end SIGN
