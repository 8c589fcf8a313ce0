/-! printed by wip/whole/gen/gen6.py: the law's code checked, some forty instructions at a time -/
section LAWOK
variable {y : Nat}
def ab_okn (y : Nat) : Nat → Nat → List ab_Ent → Bool
  | 0, _, _ => true
  | _ + 1, _, [] => true
  | m + 1, pc, e :: k => (match decode (ab_by y) pc with
    | .ok (i, len) => decide (i = e.1) && Nat.beq len (ab_lnp pc e.1)
    | _ => false) && ab_lk y pc e && ab_okn y m (pc + ab_lnp pc e.1) k
def ab_adv : Nat → Nat → List ab_Ent → Nat
  | 0, pc, _ => pc
  | _ + 1, pc, [] => pc
  | m + 1, pc, e :: k => ab_adv m (pc + ab_lnp pc e.1) k
def ab_dr : Nat → List ab_Ent → List ab_Ent
  | 0, k => k
  | _ + 1, [] => []
  | m + 1, _ :: k => ab_dr m k
theorem ab_okcut : ∀ (m pc : Nat) (k : List ab_Ent), ab_okn y m pc k = true → ab_okc y (ab_adv m pc k) (ab_dr m k) = true → ab_okc y pc k = true
  | 0, _, _, _, h => h
  | _ + 1, _, [], _, _ => rfl
  | m + 1, pc, e :: k, h1, h2 => by
    unfold ab_okn at h1
    unfold ab_okc
    rw [Bool.and_eq_true] at h1 ⊢
    exact ⟨h1.1, ab_okcut m _ k h1.2 h2⟩
theorem ab_okstep {m pc pc2 : Nat} {k k2 : List ab_Ent} (h1 : ab_okn y m pc k = true) (e1 : ab_adv m pc k = pc2) (e2 : ab_dr m k = k2) (h2 : ab_okc y pc2 k2 = true) : ab_okc y pc k = true := by
  subst e1
  subst e2
  exact ab_okcut m pc k h1 h2
theorem lk_1289 : ab_okc 259 1289 k_259_1289 = true := by decide +kernel
theorem ln_1231 : ab_okn 259 40 1231 k_259_1231 = true := by decide +kernel
theorem lk_1231 : ab_okc 259 1231 k_259_1231 = true := ab_okstep (m := 40) (pc2 := 1289) (k2 := k_259_1289) ln_1231 (by decide +kernel) rfl lk_1289
theorem ln_1173 : ab_okn 259 40 1173 k_259_1173 = true := by decide +kernel
theorem lk_1173 : ab_okc 259 1173 k_259_1173 = true := ab_okstep (m := 40) (pc2 := 1231) (k2 := k_259_1231) ln_1173 (by decide +kernel) rfl lk_1231
theorem ln_1107 : ab_okn 259 40 1107 k_259_1107 = true := by decide +kernel
theorem lk_1107 : ab_okc 259 1107 k_259_1107 = true := ab_okstep (m := 40) (pc2 := 1173) (k2 := k_259_1173) ln_1107 (by decide +kernel) rfl lk_1173
theorem ln_1053 : ab_okn 259 40 1053 k_259_1053 = true := by decide +kernel
theorem lk_1053 : ab_okc 259 1053 k_259_1053 = true := ab_okstep (m := 40) (pc2 := 1107) (k2 := k_259_1107) ln_1053 (by decide +kernel) rfl lk_1107
theorem ln_996 : ab_okn 259 40 996 k_259_996 = true := by decide +kernel
theorem lk_996 : ab_okc 259 996 k_259_996 = true := ab_okstep (m := 40) (pc2 := 1053) (k2 := k_259_1053) ln_996 (by decide +kernel) rfl lk_1053
theorem ln_943 : ab_okn 259 40 943 k_259_943 = true := by decide +kernel
theorem lk_943 : ab_okc 259 943 k_259_943 = true := ab_okstep (m := 40) (pc2 := 996) (k2 := k_259_996) ln_943 (by decide +kernel) rfl lk_996
theorem ln_888 : ab_okn 259 40 888 k_259_888 = true := by decide +kernel
theorem lk_888 : ab_okc 259 888 k_259_888 = true := ab_okstep (m := 40) (pc2 := 943) (k2 := k_259_943) ln_888 (by decide +kernel) rfl lk_943
theorem ln_826 : ab_okn 259 40 826 k_259_826 = true := by decide +kernel
theorem lk_826 : ab_okc 259 826 k_259_826 = true := ab_okstep (m := 40) (pc2 := 888) (k2 := k_259_888) ln_826 (by decide +kernel) rfl lk_888
theorem ln_771 : ab_okn 259 40 771 k_259_771 = true := by decide +kernel
theorem lk_771 : ab_okc 259 771 k_259_771 = true := ab_okstep (m := 40) (pc2 := 826) (k2 := k_259_826) ln_771 (by decide +kernel) rfl lk_826
theorem ln_711 : ab_okn 259 40 711 k_259_711 = true := by decide +kernel
theorem lk_711 : ab_okc 259 711 k_259_711 = true := ab_okstep (m := 40) (pc2 := 771) (k2 := k_259_771) ln_711 (by decide +kernel) rfl lk_771
theorem ln_656 : ab_okn 259 40 656 k_259_656 = true := by decide +kernel
theorem lk_656 : ab_okc 259 656 k_259_656 = true := ab_okstep (m := 40) (pc2 := 711) (k2 := k_259_711) ln_656 (by decide +kernel) rfl lk_711
theorem ln_599 : ab_okn 259 40 599 k_259_599 = true := by decide +kernel
theorem lk_599 : ab_okc 259 599 k_259_599 = true := ab_okstep (m := 40) (pc2 := 656) (k2 := k_259_656) ln_599 (by decide +kernel) rfl lk_656
theorem ln_542 : ab_okn 259 40 542 k_259_542 = true := by decide +kernel
theorem lk_542 : ab_okc 259 542 k_259_542 = true := ab_okstep (m := 40) (pc2 := 599) (k2 := k_259_599) ln_542 (by decide +kernel) rfl lk_599
theorem ln_486 : ab_okn 259 40 486 k_259_486 = true := by decide +kernel
theorem lk_486 : ab_okc 259 486 k_259_486 = true := ab_okstep (m := 40) (pc2 := 542) (k2 := k_259_542) ln_486 (by decide +kernel) rfl lk_542
theorem ln_427 : ab_okn 259 40 427 k_259_427 = true := by decide +kernel
theorem lk_427 : ab_okc 259 427 k_259_427 = true := ab_okstep (m := 40) (pc2 := 486) (k2 := k_259_486) ln_427 (by decide +kernel) rfl lk_486
theorem ln_370 : ab_okn 259 40 370 k_259_370 = true := by decide +kernel
theorem lk_370 : ab_okc 259 370 k_259_370 = true := ab_okstep (m := 40) (pc2 := 427) (k2 := k_259_427) ln_370 (by decide +kernel) rfl lk_427
theorem ln_308 : ab_okn 259 40 308 k_259_308 = true := by decide +kernel
theorem lk_308 : ab_okc 259 308 k_259_308 = true := ab_okstep (m := 40) (pc2 := 370) (k2 := k_259_370) ln_308 (by decide +kernel) rfl lk_370
theorem ln_247 : ab_okn 259 40 247 k_259_247 = true := by decide +kernel
theorem lk_247 : ab_okc 259 247 k_259_247 = true := ab_okstep (m := 40) (pc2 := 308) (k2 := k_259_308) ln_247 (by decide +kernel) rfl lk_308
theorem ln_194 : ab_okn 259 40 194 k_259_194 = true := by decide +kernel
theorem lk_194 : ab_okc 259 194 k_259_194 = true := ab_okstep (m := 40) (pc2 := 247) (k2 := k_259_247) ln_194 (by decide +kernel) rfl lk_247
theorem ln_0 : ab_okn 259 40 0 k_259_0 = true := by decide +kernel
theorem lk_0 : ab_okc 259 0 k_259_0 = true := ab_okstep (m := 40) (pc2 := 194) (k2 := k_259_194) ln_0 (by decide +kernel) rfl lk_194
theorem ok_259 : ab_okc 259 0 (ab_code 259) = true := lk_0
end LAWOK
