/-! a fault noted -/
section FAIL
variable {X : ab_X} {l : Launch}
theorem c_KR_fail (x : Int32) (w : ab_W) (n : Nat) {a b c d e f r1 r2 r3 : Int32} (h1 : w 1 = oTape a b c d e f) (h3 : w 3 = oKR r1 r2 r3) :
    ab_C X l i_KR_fail [.ref 3, .ref 1, .int x] w n 0 0 (ab_q1 (some (.int (nI 0))) (va_up w 3 (oKR x e r3)) n) := by
  obtain ⟨w, rfl⟩ := va_ex2 h1 h3
  refine ab_metI cd_15 om_15 rfl (ab_sound ok_15 [] 80 ?_)
  exact ⟨rfl, rfl, (by first | rfl | (simp only [va_uu, va_uc, Nat.reduceLT]; done) | (simp only [va_uu, va_uc, Nat.reduceLT]; rfl)), rfl⟩
end FAIL
