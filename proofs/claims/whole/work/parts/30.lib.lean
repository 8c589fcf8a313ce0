/-! posts, calls, worlds: the words that the methods' contracts use -/
def ab_q1 (v : Option Value) (w : ab_W) (n : Nat) : ab_Q := fun v' w' n' => v' = v ∧ w' = w ∧ n' = n
theorem ab_call0 {C : Nat → List Value → ab_W → Nat → Nat → Nat → ab_Q → Prop} {a : Nat} {av : List Value} {w : ab_W} {n bc bs : Nat} {K : Option Value → ab_W → Nat → Nat → Nat → Prop} {v : Option Value} {w' : ab_W} {n' : Nat} (hC : C a av w n 0 0 (ab_q1 v w' n')) (hK : K v w' n' bc bs) : ab_call C a av w n bc bs K := by
  refine ⟨0, 0, _, Nat.zero_le _, Nat.zero_le _, hC, ?_⟩
  rintro _ _ _ ⟨rfl, rfl, rfl⟩
  exact hK
theorem ab_call1 {C : Nat → List Value → ab_W → Nat → Nat → Nat → ab_Q → Prop} {a : Nat} {av : List Value} {w : ab_W} {n bc bs : Nat} {K : Option Value → ab_W → Nat → Nat → Nat → Prop} {mc ms : Nat} {v : Option Value} {w' : ab_W} {n' : Nat} (hC : C a av w n mc ms (ab_q1 v w' n')) (h1 : mc ≤ bc) (h2 : ms ≤ bs) (hK : K v w' n' (bc - mc) (bs - ms)) : ab_call C a av w n bc bs K := by
  refine ⟨mc, ms, _, h1, h2, hC, ?_⟩
  rintro _ _ _ ⟨rfl, rfl, rfl⟩
  exact hK
section LIB
variable {X : ab_X} {l : Launch} {y : Nat} {av : List Value} {w : ab_W} {n mc ms : Nat}
theorem ab_metI {x : Int32} {w' : ab_W} {n' : Nat} (hcd : Cond.code (ab_mn y) (ab_by y) (ab_mx y) (ab_rt y) ∈ lw_tbl) (hok : ab_okm y = true) (hmx : Nat.ble (ab_en0 av).length (ab_mx y) = true) (h : ab_Ev X l y 0 (ab_en (ab_mx y) av) [] w n mc ms (ab_q1 (some (.int x)) w' n')) : ab_C X l y av w n mc ms (ab_q1 (some (.int x)) w' n') := by
  refine ab_met hcd hok hmx ?_ h
  rintro _ _ _ ⟨rfl, -, -⟩
  trivial
theorem ab_metL {x : Int64} {w' : ab_W} {n' : Nat} (hcd : Cond.code (ab_mn y) (ab_by y) (ab_mx y) (ab_rt y) ∈ lw_tbl) (hok : ab_okm y = true) (hrt : ab_rt y = some .long) (hmx : Nat.ble (ab_en0 av).length (ab_mx y) = true) (h : ab_Ev X l y 0 (ab_en (ab_mx y) av) [] w n mc ms (ab_q1 (some (.long x)) w' n')) : ab_C X l y av w n mc ms (ab_q1 (some (.long x)) w' n') := by
  refine ab_met hcd hok hmx ?_ h
  rintro _ _ _ ⟨rfl, -, -⟩
  exact hrt
theorem ab_metV {w' : ab_W} {n' : Nat} (hcd : Cond.code (ab_mn y) (ab_by y) (ab_mx y) (ab_rt y) ∈ lw_tbl) (hok : ab_okm y = true) (hrt : ab_rt y = none) (hmx : Nat.ble (ab_en0 av).length (ab_mx y) = true) (h : ab_Ev X l y 0 (ab_en (ab_mx y) av) [] w n mc ms (ab_q1 none w' n')) : ab_C X l y av w n mc ms (ab_q1 none w' n') := by
  refine ab_met hcd hok hmx ?_ h
  rintro _ _ _ ⟨rfl, -, -⟩
  exact hrt
theorem ab_metR {k : Nat} {w' : ab_W} {n' : Nat} (hcd : Cond.code (ab_mn y) (ab_by y) (ab_mx y) (ab_rt y) ∈ lw_tbl) (hok : ab_okm y = true) (hrt : ab_rtA (ab_rt y) = true) (hmx : Nat.ble (ab_en0 av).length (ab_mx y) = true) (h : ab_Ev X l y 0 (ab_en (ab_mx y) av) [] w n mc ms (ab_q1 (some (.ref k)) w' n')) : ab_C X l y av w n mc ms (ab_q1 (some (.ref k)) w' n') := by
  refine ab_met hcd hok hmx ?_ h
  rintro _ _ _ ⟨rfl, -, -⟩
  exact hrt
theorem ab_metN {w' : ab_W} {n' : Nat} (hcd : Cond.code (ab_mn y) (ab_by y) (ab_mx y) (ab_rt y) ∈ lw_tbl) (hok : ab_okm y = true) (hrt : ab_rtA (ab_rt y) = true) (hmx : Nat.ble (ab_en0 av).length (ab_mx y) = true) (h : ab_Ev X l y 0 (ab_en (ab_mx y) av) [] w n mc ms (ab_q1 (some .null) w' n')) : ab_C X l y av w n mc ms (ab_q1 (some .null) w' n') := by
  refine ab_met hcd hok hmx ?_ h
  rintro _ _ _ ⟨rfl, -, -⟩
  exact hrt
end LIB
theorem va_self {w : ab_W} {k : Nat} {c : va_E} (h : w k = c) : w = va_up w k c := by
  funext j
  unfold va_up
  split
  · rename_i e
    rw [e, h]
  · rfl
theorem va_uu {α : Type} {f : Nat → α} {k : Nat} {a b : α} : va_up (va_up f k a) k b = va_up f k b := by
  funext j
  unfold va_up
  split <;> rfl
theorem va_uc {α : Type} {f : Nat → α} {j k : Nat} {a b : α} (h : k < j) : va_up (va_up f j a) k b = va_up (va_up f k b) j a := by
  funext i
  unfold va_up
  by_cases h1 : i = k
  · by_cases h2 : i = j
    · omega
    · simp [h1]
      omega
  · by_cases h2 : i = j
    · simp [h2]
      omega
    · simp [h1, h2]
theorem va_us {α : Type} {f : Nat → α} {k : Nat} {a : α} : va_up f k a k = a := by simp [va_up]
theorem va_un {α : Type} {f : Nat → α} {k j : Nat} {a : α} (h : j ≠ k) : va_up f k a j = f j := by simp [va_up, h]
theorem va_ex {w : ab_W} {k : Nat} {c : va_E} (h : w k = c) : ∃ w0, w = va_up w0 k c := ⟨w, va_self h⟩
theorem va_ex2 {w : ab_W} {k j : Nat} {c d : va_E} (h : w k = c) (h2 : w j = d) : ∃ w0, w = va_up (va_up w0 j d) k c := by
  refine ⟨w, ?_⟩
  rw [← va_self h2, ← va_self h]
theorem va_ex3 {w : ab_W} {k j i : Nat} {c d e : va_E} (h : w k = c) (h2 : w j = d) (h3 : w i = e) : ∃ w0, w = va_up (va_up (va_up w0 i e) j d) k c := by
  refine ⟨w, ?_⟩
  rw [← va_self h3, ← va_self h2, ← va_self h]
theorem va_ex4 {w : ab_W} {k j i g : Nat} {c d e f : va_E} (h : w k = c) (h2 : w j = d) (h3 : w i = e) (h4 : w g = f) : ∃ w0, w = va_up (va_up (va_up (va_up w0 g f) i e) j d) k c := by
  refine ⟨w, ?_⟩
  rw [← va_self h4, ← va_self h3, ← va_self h2, ← va_self h]
/-- the loop rule: from every i up to e -/
theorem ab_up {P : Nat → Prop} (e : Nat) (hx : P e) (hs : ∀ i, i < e → P (i + 1) → P i) : ∀ i, i ≤ e → P i := by
  intro i hi
  obtain ⟨d, rfl⟩ := Nat.le.dest hi
  clear hi
  induction d generalizing i with
  | zero => exact hx
  | succ d ih => exact hs i (by omega) (by rw [show i + (d + 1) = i + 1 + d by omega] at hx hs; exact ih (i + 1) hx hs)
theorem i32_lt {a b : Int32} : a < b ↔ a.toInt < b.toInt := Int32.lt_iff_toInt_lt
theorem i32_le {a b : Int32} : a ≤ b ↔ a.toInt ≤ b.toInt := Int32.le_iff_toInt_le
theorem i64_lt {a b : Int64} : a < b ↔ a.toInt < b.toInt := Int64.lt_iff_toInt_lt
theorem i64_le {a b : Int64} : a ≤ b ↔ a.toInt ≤ b.toInt := Int64.le_iff_toInt_le
theorem nI_s (i : Nat) : nI (i + 1) = nI i + nI 1 := (nI_add i 1).symm
