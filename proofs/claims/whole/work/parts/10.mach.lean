/-! THE ABSTRACT MACHINE: cells by their places in a row of addresses, locals and stack as lists; one step's obligation, sound over W -/
abbrev ab_L : Type := List (Option Value)
abbrev ab_W : Type := Nat → va_E
abbrev ab_Q : Type := Option Value → ab_W → Nat → Prop
abbrev ab_Ent : Type := Jvm.ClassFile.Instr × Nat × Nat × Nat
abbrev ab_M : Type := MethodName × ByteArray × Nat × Option FieldType × Nat × Nat × Nat × List ab_Ent
abbrev ab_X : Type := va_G × (Nat → ClassId) × (Nat → Nat) × Nat × (Nat → Int32)
def ab_tys (tc : Nat → ClassId) : List (ClassId × FieldType) := [(tc 0, .int), (tc 1, .long), (tc 2, .boolean), (tc 3, .object "WheelPens$Sheet")]
/-- a value of the abstract machine, and the machine's: a place is an address; retAddr j is a known object from outside -/
def ab_rv (X : ab_X) (ad : List Nat) (v v' : Value) : Prop := match v with
  | .ref k => ∃ a, ad[k]? = some a ∧ v' = .ref a
  | .retAddr j => v' = .ref (X.2.2.1 j)
  | v => v' = v
def ab_rs (X : ab_X) (ad : List Nat) : List Value → List Value → Prop
  | [], [] => True
  | v :: s, v' :: s' => ab_rv X ad v v' ∧ ab_rs X ad s s'
  | _, _ => False
def ab_re (X : ab_X) (ad : List Nat) (e e' : va_E) : Prop := match e with
  | .inl (t, n, .inr (.inr (.inr (.inr f)))) => ∃ f' : Nat → Option Nat, e' = .inl (X.2.1 t, n, .inr (.inr (.inr (.inr f')))) ∧ ∀ j, ab_rv X ad (va_rf (f j)) (va_rf (f' j))
  | .inl (t, n, c) => e' = .inl (X.2.1 t, n, c)
  | .inr (ci, fs) => ∃ fs', e' = .inr (ci, fs') ∧ ab_rs X ad fs fs'
def ab_rw (X : ab_X) (ad : List Nat) (w : ab_W) (ws : va_W) : Prop := ws.length = ad.length ∧ ∀ k a, ad[k]? = some a → ∃ e', ws[k]? = some (a, e') ∧ ab_re X ad (w k) e'
def ab_rl (X : ab_X) (ad : List Nat) (ls : ab_L) (lsr : Array Slot) (nL : Nat) : Prop := ls.length = nL ∧ ∃ lv, lv_has lsr nL lv ∧ ∀ i v, ls[i]? = some (some v) → ∃ v', (i, v') ∈ lv ∧ ab_rv X ad v v'
def ab_rh (X : ab_X) (A : Nat → Prop) (ad0 ad : List Nat) (w : ab_W) (n : Nat) (ws : va_W) (s : State) (H : Heap) (locs : List Loc) : Prop :=
  (∃ t, ad0 ++ t = ad) ∧ ad.length = n ∧ ab_rw X ad w ws ∧ va_P X.1 vwCl ws H ∧ va_D A ws ∧ va_S A s.heap H locs
theorem ab_rv.mono {X : ab_X} {ad t : List Nat} {v v' : Value} (h : ab_rv X ad v v') : ab_rv X (ad ++ t) v v' := by
  cases v with
  | ref k =>
    obtain ⟨a, h1, h2⟩ := h
    refine ⟨a, ?_, h2⟩
    have := (List.getElem?_eq_some_iff.mp h1).1
    rw [List.getElem?_append_left this]
    exact h1
  | _ => exact h
theorem ab_rs.mono {X : ab_X} {ad t : List Nat} : ∀ {s s' : List Value}, ab_rs X ad s s' → ab_rs X (ad ++ t) s s'
  | [], [], _ => trivial
  | _ :: _, _ :: _, h => ⟨h.1.mono, ab_rs.mono h.2⟩
  | [], _ :: _, h => h.elim
  | _ :: _, [], h => h.elim
theorem ab_re.mono {X : ab_X} {ad t : List Nat} {e e' : va_E} (h : ab_re X ad e e') : ab_re X (ad ++ t) e e' := by
  match e, h with
  | .inl (_, _, .inr (.inr (.inr (.inr _)))), ⟨f', h1, h2⟩ => exact ⟨f', h1, fun j => (h2 j).mono⟩
  | .inl (_, _, .inl _), h => exact h
  | .inl (_, _, .inr (.inl _)), h => exact h
  | .inl (_, _, .inr (.inr (.inl _))), h => exact h
  | .inl (_, _, .inr (.inr (.inr (.inl _)))), h => exact h
  | .inr (_, _), ⟨fs', h1, h2⟩ => exact ⟨fs', h1, h2.mono⟩
theorem ab_rl.mono {X : ab_X} {ad t : List Nat} {ls : ab_L} {lsr : Array Slot} {nL : Nat} (h : ab_rl X ad ls lsr nL) : ab_rl X (ad ++ t) ls lsr nL := by
  obtain ⟨h1, lv, h2, h3⟩ := h
  refine ⟨h1, lv, h2, fun i v hi => ?_⟩
  obtain ⟨v', a, b⟩ := h3 i v hi
  exact ⟨v', a, b.mono⟩
theorem ab_rs.len {X : ab_X} {ad : List Nat} : ∀ {s s' : List Value}, ab_rs X ad s s' → s.length = s'.length
  | [], [], _ => rfl
  | _ :: _, _ :: _, h => congrArg Nat.succ (ab_rs.len h.2)
  | [], _ :: _, h => h.elim
  | _ :: _, [], h => h.elim
theorem ab_rs.get {X : ab_X} {ad : List Nat} : ∀ {s s' : List Value} {k : Nat} {v : Value}, ab_rs X ad s s' → s[k]? = some v → ∃ v', s'[k]? = some v' ∧ ab_rv X ad v v'
  | [], [], k, v, _, hk => by simp at hk
  | a :: s, b :: s', 0, v, h, hk => by
    simp at hk
    subst hk
    exact ⟨b, rfl, h.1⟩
  | a :: s, b :: s', k + 1, v, h, hk => by
    simp only [List.getElem?_cons_succ] at hk
    obtain ⟨v', h1, h2⟩ := ab_rs.get h.2 hk
    exact ⟨v', by simpa using h1, h2⟩
  | [], _ :: _, _, _, h, _ => h.elim
  | _ :: _, [], _, _, h, _ => h.elim
theorem ab_rs.put {X : ab_X} {ad : List Nat} {v v' : Value} (hv : ab_rv X ad v v') : ∀ {s s' : List Value} (k : Nat), ab_rs X ad s s' → ab_rs X ad (s.set k v) (s'.set k v')
  | [], [], _, _ => trivial
  | _ :: _, _ :: _, 0, h => ⟨hv, h.2⟩
  | _ :: _, _ :: _, k + 1, h => ⟨h.1, ab_rs.put hv k h.2⟩
  | [], _ :: _, _, h => h.elim
  | _ :: _, [], _, h => h.elim
theorem ab_rs.app {X : ab_X} {ad : List Nat} : ∀ {a a' b b' : List Value}, ab_rs X ad a a' → ab_rs X ad b b' → ab_rs X ad (a ++ b) (a' ++ b')
  | [], [], _, _, _, h => h
  | _ :: _, _ :: _, _, _, h, h2 => ⟨h.1, ab_rs.app h.2 h2⟩
  | [], _ :: _, _, _, h, _ => h.elim
  | _ :: _, [], _, _, h, _ => h.elim
theorem ab_rs.rev {X : ab_X} {ad : List Nat} : ∀ {a a' : List Value}, ab_rs X ad a a' → ab_rs X ad a.reverse a'.reverse
  | [], [], _ => trivial
  | _ :: _, _ :: _, h => by
    rw [List.reverse_cons, List.reverse_cons]
    exact ab_rs.app (ab_rs.rev h.2) ⟨h.1, trivial⟩
  | [], _ :: _, h => h.elim
  | _ :: _, [], h => h.elim
theorem ab_rv.cat {X : ab_X} {ad : List Nat} {v v' : Value} (h : ab_rv X ad v v') : v'.category = v.category := by
  cases v with
  | ref k => obtain ⟨a, -, rfl⟩ := h; rfl
  | retAddr j => cases h; rfl
  | _ => cases h; rfl
theorem ab_rs.cats {X : ab_X} {ad : List Nat} : ∀ {s s' : List Value}, ab_rs X ad s s' → (s'.map fun v => v.category).sum = (s.map fun v => v.category).sum
  | [], [], _ => rfl
  | _ :: _, _ :: _, h => by
    simp only [List.map_cons, List.sum_cons]
    rw [h.1.cat, ab_rs.cats h.2]
  | [], _ :: _, h => h.elim
  | _ :: _, [], h => h.elim
/-- a place's cell is replaced -/
theorem ab_rw.put {X : ab_X} {ad : List Nat} {w : ab_W} {ws : va_W} (h : ab_rw X ad w ws) {k a : Nat} (hk : ad[k]? = some a) {c c' : va_E} (hc : ab_re X ad c c') : ab_rw X ad (va_up w k c) (ws.set k (a, c')) := by
  refine ⟨by rw [List.length_set]; exact h.1, fun j b hj => ?_⟩
  by_cases e : j = k
  · subst e
    rw [hk] at hj
    cases hj
    have hl : j < ws.length := by rw [h.1]; exact (List.getElem?_eq_some_iff.mp hk).1
    refine ⟨c', by simp [hl], ?_⟩
    simp only [va_up, if_true]
    exact hc
  · obtain ⟨e', h1, h2⟩ := h.2 j b hj
    refine ⟨e', by rw [List.getElem?_set_ne (fun z => e z.symm)]; exact h1, ?_⟩
    simp only [va_up, if_neg e]
    exact h2
theorem ab_rw.push {X : ab_X} {ad : List Nat} {w : ab_W} {ws : va_W} (h : ab_rw X ad w ws) {a : Nat} {c c' : va_E} (hc : ab_re X (ad ++ [a]) c c') : ab_rw X (ad ++ [a]) (va_up w ad.length c) (ws ++ [(a, c')]) := by
  refine ⟨by simp [h.1], fun j b hj => ?_⟩
  by_cases e : j = ad.length
  · subst e
    rw [List.getElem?_append_right (Nat.le_refl _)] at hj
    simp at hj
    subst hj
    refine ⟨c', ?_, ?_⟩
    · rw [← h.1, List.getElem?_append_right (Nat.le_refl _)]
      simp
    · simp only [va_up, if_true]
      exact hc
  · have hl : j < ad.length := by
      have := (List.getElem?_eq_some_iff.mp hj).1
      simp at this
      omega
    rw [List.getElem?_append_left hl] at hj
    obtain ⟨e', h1, h2⟩ := h.2 j b hj
    refine ⟨e', by rw [List.getElem?_append_left (by rw [h.1]; exact hl)]; exact h1, ?_⟩
    simp only [va_up, if_neg e]
    exact h2.mono
