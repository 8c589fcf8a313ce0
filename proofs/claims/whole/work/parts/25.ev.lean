/-! what the abstract machine's places mean over the machine itself; contracts -/
abbrev ab_tb : List Cond := lw_tbl.filter goodWord
theorem ab_tbm {w : Cond} (h : w ∈ lw_tbl) (g : goodWord w = true) : w ∈ ab_tb := List.mem_filter.mpr ⟨h, g⟩
def ab_isN : Cond → Bool
  | .fieldLinkNest .. => true
  | .methodLinkNest .. => true
  | _ => false
/-- what holds from outside: the script, the nest's links, the class of rows of sheets -/
def ab_SX0 (X : ab_X) (U : State) : Prop := (∀ w ∈ lw_tbl, ab_isN w = true → va_Nw w U) ∧ va_AO "WheelPens$Sheet" U ∧ ∀ (j : Nat) (q : String × Nat × String), ab_str[j]? = some q → vk_R q.1 q.2.1 q.2.2 (X.2.2.1 j) U
/-- the words of a throw that may not be kept as the others are -/
def ab_cd : Cond → Bool
  | .castable _ _ => true
  | .declares _ => true
  | _ => false
theorem ab_cdm {w : Cond} (hw : ab_cd w = true) {u U : State} (hal : u.vm.Alike U.vm) {a a' : Array Value} (h : w.before a u = true) : w.before a' U = true := by
  have e : w.before a' (U.setVm U.vm) = w.before a (u.setVm U.vm) := Cond.onTables_vm U.vm w (by cases w <;> first | rfl | cases hw)
  show w.before a' (U.setVm U.vm) = true
  rw [e]
  cases w with
  | castable c t => rw [Cond.castable_setVm hal]; exact h
  | declares x => rw [Cond.declares_setVm hal]; exact h
  | _ => cases hw
def ab_NSE : String := "java/util/NoSuchElementException"
def ab_atx : List Cond := vx_atS "WheelPens" 121 ab_NSE ["java/lang/RuntimeException", "java/lang/Exception"]
def ab_thw : List Cond := ab_atx.filter (fun w => !goodWord w)
theorem ab_thw_cd : ab_thw.all ab_cd = true := by decide +kernel
/-- what a throw needs from outside -/
def ab_TH (A : Nat → Prop) (U : State) (H : Heap) : Prop := vx_Zq Bundle.tN "UNASSIGNED_STACK" Bundle.steD A U H ∧ vx_Zq Bundle.tN "SUPPRESSED_SENTINEL" Bundle.listD A U H ∧ ∀ w ∈ ab_thw, w.before #[] U = true
theorem ab_TH.moved {A : Nat → Prop} {u U : State} {H : Heap} (hal : u.vm.Alike U.vm) (h : ab_TH A u H) : ab_TH A U H := ⟨vx_Zq.moved hal h.1, vx_Zq.moved hal h.2.1, fun w hw => ab_cdm (List.all_eq_true.mp ab_thw_cd w hw) hal (h.2.2 w hw)⟩
theorem ab_TH.kept {A : Nat → Prop} {U : State} {H H1 : Heap} (h : ab_TH A U H) (hq : ∀ a : Nat, a < H.size → ¬ A a → H1[a]? = H[a]?) : ab_TH A U H1 := ⟨h.1.kept hq, h.2.1.kept hq, h.2.2⟩
theorem ab_TH.narrow {A B : Nat → Prop} {U : State} {H : Heap} (h : ab_TH A U H) (hAB : ∀ q, B q → A q) : ab_TH B U H := ⟨h.1.narrow hAB, h.2.1.narrow hAB, h.2.2⟩
def ab_SX (X : ab_X) (A : Nat → Prop) (U : State) (H : Heap) : Prop := va_T .int (X.2.2.1 1000) X.2.2.2.1 (fun j => .int (X.2.2.2.2 j)) A U H ∧ ab_SX0 X U ∧ vk_S 17 ab_sl ab_sb X.2.2.1 (fun j => X.2.2.1 (2000 + j)) A U H ∧ va_Z "java/lang/String" "COMPACT_STRINGS" "Z" (.int 1) A U H ∧ (va_Z "jdk/internal/util/Preconditions" "SIOOBE_FORMATTER" "Ljava/util/function/BiFunction;" .null A U H ∨ va_Z "jdk/internal/util/Preconditions" "SIOOBE_FORMATTER" "Ljava/util/function/BiFunction;" (.ref (X.2.2.1 3000)) A U H) ∧ ab_TH A U H
theorem ab_SX.moved {X : ab_X} {A : Nat → Prop} {u U : State} {H : Heap} (hW : u.WarmedH U.vm) (h : ab_SX X A u H) : ab_SX X A U H := by
  refine ⟨va_T.moved hW.alike h.1, ⟨fun w hw hn => ?_, va_AO.moved hW.alike h.2.1.2.1, fun j q hq => vk_R.warm hW (h.2.1.2.2 j q hq)⟩, vk_S.moved hW.alike h.2.2.1, va_Z.moved hW.alike h.2.2.2.1, h.2.2.2.2.1.imp (va_Z.moved hW.alike) (va_Z.moved hW.alike), h.2.2.2.2.2.moved hW.alike⟩
  have h2 := h.2.1.1 w hw hn
  cases w with
  | fieldLinkNest => exact va_Nw.warmF hW h2
  | methodLinkNest => exact va_Nw.warmM hW h2
  | _ => exact absurd hn (by intro z; cases z)
theorem ab_SX.same {X : ab_X} {A : Nat → Prop} {u U : State} {H : Heap} (hvm : u.vm = U.vm) (h : ab_SX X A u H) : ab_SX X A U H := by
  have hal : u.vm.Alike U.vm := by rw [hvm]; exact Vm.Alike.refl U.vm
  refine ⟨va_T.moved hal h.1, ⟨fun w hw hn => ?_, va_AO.moved hal h.2.1.2.1, fun j q hq => vk_R.same hvm.symm (h.2.1.2.2 j q hq)⟩, vk_S.moved hal h.2.2.1, va_Z.moved hal h.2.2.2.1, h.2.2.2.2.1.imp (va_Z.moved hal) (va_Z.moved hal), h.2.2.2.2.2.moved hal⟩
  have h2 := h.2.1.1 w hw hn
  cases w with
  | fieldLinkNest => exact va_Nw.same rfl hvm h2
  | methodLinkNest => exact va_Nw.same rfl hvm h2
  | _ => exact absurd hn (by intro z; cases z)
theorem ab_SX.kept {X : ab_X} {A : Nat → Prop} {U : State} {H H1 : Heap} (h : ab_SX X A U H) (hq : ∀ a : Nat, a < H.size → ¬ A a → H1[a]? = H[a]?) : ab_SX X A U H1 := ⟨va_T.kept h.1 hq, h.2.1, vk_S.kept h.2.2.1 hq, va_Z.kept h.2.2.2.1 hq, h.2.2.2.2.1.imp (fun z => va_Z.kept z hq) (fun z => va_Z.kept z hq), h.2.2.2.2.2.kept hq⟩
theorem ab_SX.narrow {X : ab_X} {A B : Nat → Prop} {U : State} {H : Heap} (h : ab_SX X A U H) (hAB : ∀ q, B q → A q) : ab_SX X B U H := ⟨va_T.narrow h.1 hAB, h.2.1, vk_S.narrow h.2.2.1 hAB, va_Z.narrow h.2.2.2.1 hAB, h.2.2.2.2.1.imp (fun z => va_Z.narrow z hAB) (fun z => va_Z.narrow z hAB), h.2.2.2.2.2.narrow hAB⟩
def ab_kd (y : Nat) : Nat := match ab_mp[y]? with
  | some (_, _, _, _, k) => k
  | none => 99
/-- the tables of the law's helpers -/
def ab_hh : Nat → List (Nat × Nat × Nat × Nat)
  | 244 => [(0, 10, 13, 13)]
  | 245 => [(0, 11, 14, 13)]
  | 246 => [(0, 11, 14, 13)]
  | 247 => [(0, 9, 12, 13)]
  | 248 => [(0, 8, 11, 13)]
  | 249 => [(0, 10, 13, 13)]
  | _ => []
def ab_B (X : ab_X) (y : Nat) (p : Program) (R : Room) (s : State) (m : MethodId) (args : Array Value) (meth : Method) (c : Code) (A : Nat → Prop) : Prop :=
  p.tables.exec = Jvm.exec ∧ c.code = ab_by y ∧ meth.sig.returnType = ab_rt y ∧ c.maxLocals = ab_mx y ∧ s.vm.findClass (ab_cn (ab_oc y)) = some m.cls ∧ (∀ w ∈ ab_tb, w.before args s = true) ∧ (meth.locks = false ∧ (ab_kd y = 11 → c.exceptionTable.toList = tableOf (ab_hh y))) ∧ meth.name = (ab_mn y).name ∧ va_K X.1 vwCl (ab_tys X.2.1) s ∧ ab_fr y ≤ R.frames ∧ ab_lo y ≤ R.locals ∧ (∀ q, s.heap.size ≤ q → A q) ∧ ab_SX X A s s.heap
def ab_ro (X : ab_X) (ad : List Nat) (v v' : Option Value) : Prop := ab_rs X ad v.toList v'.toList
/-- the instruction at a method's end, by its answer -/
def ab_isr (y pc : Nat) (v : Option Value) : Prop := match v with
  | none => decode (ab_by y) pc = .ok (.return_, 1)
  | some (.int x) => decode (ab_by y) pc = .ok (.ireturn, 1) ∧ ∃ ty, ab_rt y = some ty ∧ narrow ty (.int x) = .int x
  | some (.long _) => decode (ab_by y) pc = .ok (.lreturn, 1)
  | some (.ref _) => decode (ab_by y) pc = .ok (.areturn, 1)
  | some .null => decode (ab_by y) pc = .ok (.areturn, 1)
  | _ => False
/-- a throw's place -/
def ab_isT (y pc : Nat) : Prop := (∃ i j c : Nat, decode (ab_by y) pc = .ok (.new i, 3) ∧ decode (ab_by y) (pc + 3) = .ok (.dup, 1) ∧ decode (ab_by y) (pc + 4) = .ok (.ldc j, 2) ∧ decode (ab_by y) (pc + 6) = .ok (.invokespecial c, 3) ∧ decode (ab_by y) (pc + 9) = .ok (.athrow, 1)) ∨ ∃ i j c : Nat, decode (ab_by y) pc = .ok (.new i, 3) ∧ decode (ab_by y) (pc + 3) = .ok (.dup, 1) ∧ decode (ab_by y) (pc + 4) = .ok (.ldc_w j, 3) ∧ decode (ab_by y) (pc + 7) = .ok (.invokespecial c, 3) ∧ decode (ab_by y) (pc + 10) = .ok (.athrow, 1)
def ab_fin (X : ab_X) (l : Launch) (y : Nat) (p : Program) (e : Env) (R : Room) (s : State) (m : MethodId) (args : Array Value) (below : List Frame) (meth : Method) (c : Code) (A : Nat → Prop) (ad0 : List Nat) (Q : ab_Q) (Z : State → Prop) : Prop :=
  (∀ (pc : Nat) (v v' : Option Value) (H : Heap) (locs : List Loc) (cells slots : Nat) (ad : List Nat) (w : ab_W) (n : Nat) (ws : va_W) (lsr : Array Slot), Q v w n → ab_rh X A ad0 ad w n ws s H locs → ab_ro X ad v v' → ab_isr y pc v → cells ≤ R.cells → slots ≤ R.slots → W p l e R s m args below meth c H locs cells slots Z (F0 m pc lsr v'.toList)) ∧
  (∀ (pc : Nat) (H : Heap) (locs : List Loc) (cells slots : Nat) (ad : List Nat) (w : ab_W) (n : Nat) (ws : va_W) (ls : ab_L) (lsr : Array Slot) (st str : List Value), Q (some (.retAddr 7777)) w n → ab_rh X A ad0 ad w n ws s H locs → ab_rl X ad ls lsr (ab_mx y) → ab_rs X ad st str → ab_isT y pc → Nat.ble (ab_cat st) 8 = true → pc < 100 → cells + 1 ≤ R.cells → slots + 6 ≤ R.slots → W p l e R s m args below meth c H locs cells slots Z (F0 m pc lsr str))
def ab_Ev (X : ab_X) (l : Launch) (y pc : Nat) (ls : ab_L) (st : List Value) (w : ab_W) (n bc bs : Nat) (Q : ab_Q) : Prop :=
  ∀ (p : Program) (e : Env) (R : Room) (s : State) (m : MethodId) (args : Array Value) (below : List Frame) (meth : Method) (c : Code) (A : Nat → Prop) (ad0 : List Nat) (Z : State → Prop),
    ab_B X y p R s m args meth c A → ab_fin X l y p e R s m args below meth c A ad0 Q Z →
    ∀ (H : Heap) (locs : List Loc) (cells slots : Nat) (ad : List Nat) (ws : va_W) (lsr : Array Slot) (str : List Value),
      ab_rh X A ad0 ad w n ws s H locs → ab_rl X ad ls lsr (ab_mx y) → ab_rs X ad st str → cells + bc ≤ R.cells → slots + bs ≤ R.slots → W p l e R s m args below meth c H locs cells slots Z (F0 m pc lsr str)
def ab_ws (y : Nat) : List Cond := Cond.code (ab_mn y) (ab_by y) (ab_mx y) (ab_rt y) :: ab_tb
def ab_Pc (X : ab_X) (ad : List Nat) (w : ab_W) (ws : va_W) (sz : Nat) (U : State) : Prop := U.heap.size = sz ∧ ab_rw X ad w ws ∧ va_P X.1 vwCl ws U.heap ∧ va_D (va_A ws sz) ws ∧ va_K X.1 vwCl (ab_tys X.2.1) U ∧ ab_SX X (va_A ws sz) U U.heap
def ab_Qc (X : ab_X) (ad0 : List Nat) (Q : ab_Q) (A : Nat → Prop) : Array Value → State → Outcome → State → Prop := fun _ st o t =>
  ∃ (v v' : Option Value) (w : ab_W) (n : Nat) (ad : List Nat) (ws : va_W), o = .returned v' ∧ ab_ro X ad v v' ∧ Q v w n ∧ (∃ t, ad0 ++ t = ad) ∧ ad.length = n ∧ ab_rw X ad w ws ∧ va_P X.1 vwCl ws t.heap ∧ va_D A ws ∧ va_F A st t
/-- a method's words, by their places -/
def ab_okm (y : Nat) : Bool :=
  plainFor (ab_mn y) && decide ((ab_mn y).cls = ab_cn (ab_oc y)) && decide ((ab_mn y).cls ≠ "java/lang/invoke/MethodHandle") && decide ((ab_mn y).cls ≠ "java/lang/invoke/VarHandle") &&
  match ab_mp[y]? with
  | none => false
  | some (_, p1, ps, pi, k) => decide (lw_tbl[pi]? = some (.initialized (ab_mn y).cls)) && (match k with
    | 0 => decide (lw_tbl[p1]? = some (.instanceMethod (ab_mn y))) && decide (lw_tbl[ps]? = some (.selects (ab_mn y).cls (ab_mn y) (ab_mn y)))
    | 1 => decide (lw_tbl[p1]? = some (.static (ab_mn y)))
    | 2 => decide (lw_tbl[p1]? = some (.instanceMethod (ab_mn y))) && decide ((ab_mn y).name = "<init>") && decide (ab_rt y = none)
    | _ => false)
/-- the contract of a method from one abstract start: it returns, with Q; at most mc cells of ms slots are new -/
def ab_C (X : ab_X) (l : Launch) (y : Nat) (av : List Value) (w : ab_W) (n mc ms : Nat) (Q : ab_Q) : Prop :=
  (Cond.code (ab_mn y) (ab_by y) (ab_mx y) (ab_rt y) ∈ lw_tbl ∧ ab_okm y = true) ∧ ∀ (ad : List Nat) (avr : List Value) (ws : va_W) (sz : Nat), ad.length = n → ab_rs X ad av avr →
    Met l (ab_mn y) (ab_ws y) { frames := ab_fr y, cells := mc, slots := ms, locals := ab_lo y } (va_Pc avr (ab_Pc X ad w ws sz)) (ab_Qc X ad Q (va_A ws sz)) mc ms (va_A ws sz)
def ab_wp (X : ab_X) (l : Launch) (y : Nat) (cut : List Nat) (Q : ab_Q) : Nat → ab_N
  | 0 => fun pc _ ls st w n bc bs => ab_Ev X l y pc ls st w n bc bs Q
  | f + 1 => fun pc k ls st w n bc bs => ab_step X.2.2.2.1 X.2.2.2.2 (ab_C X l) y k pc ls st w n bc bs Q (fun pc' k' ls' st' w' n' bc' bs' => match cut.contains pc' with
    | true => ab_Ev X l y pc' ls' st' w' n' bc' bs' Q
    | false => ab_wp X l y cut Q f pc' k' ls' st' w' n' bc' bs')
/-- the locals with which a method begins -/
def ab_en0 : List Value → ab_L
  | [] => []
  | .long x :: r => some (.long x) :: none :: ab_en0 r
  | .double x :: r => some (.double x) :: none :: ab_en0 r
  | v :: r => some v :: ab_en0 r
def ab_en (mx : Nat) (av : List Value) : ab_L := ab_en0 av ++ List.replicate (mx - (ab_en0 av).length) none
