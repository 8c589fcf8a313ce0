section ABF
variable {X : ab_X} {l : Launch} {y pc : Nat} {ls : ab_L} {st : List Value} {w : ab_W} {n bc bs : Nat} {Q : ab_Q}
def ab_k4 (q : Nat × Nat × Nat × Nat × Nat × Nat) : Nat × Nat × Nat × Nat := (q.1, q.2.1, q.2.2.1, q.2.2.2.1)
def ab_kk4 (q : Nat × Nat × Nat × Nat × Nat) : Nat × Nat × Nat × Nat := (q.1, q.2.1, q.2.2.1, q.2.2.2.1)
def ab_kk3 (q : Nat × Nat × Nat × Nat × Nat) : Nat × Nat × Nat := (q.1, q.2.1, q.2.2.1)
def ab_kn3 (q : Nat × Nat × Nat × Nat) : Nat × Nat × Nat := (q.1, q.2.1, q.2.2.1)
def ab_atq : Jvm.ClassFile.ArrayType → Nat → Bool
  | .int, 0 => true
  | .long, 1 => true
  | .boolean, 2 => true
  | _, _ => false
def ab_finOk (y a b : Nat) : Bool := match (ab_T a b).2.2.2 with
  | false => true
  | true => decide ((ab_mn y).name = "<init>") && decide ((ab_T a b).1 = ab_cn (ab_oc y))
def ab_nps (a : Nat) : Option Nat := (parseMethodDescriptor (ab_mn a).desc).map (fun d => d.parameters.length)
/-- an entry's links, by the rows of links -/
def ab_lk (y pc : Nat) (e : ab_Ent) : Bool := match e with
  | (.istore_n j, _, _, _) => Nat.blt j.val (ab_mx y)
  | (.istore j, _, _, _) => Nat.blt j (ab_mx y)
  | (.astore_n j, _, _, _) => Nat.blt j.val (ab_mx y)
  | (.astore j, _, _, _) => Nat.blt j (ab_mx y)
  | (.lstore_n j, _, _, _) => Nat.blt (j.val + 1) (ab_mx y)
  | (.lstore j, _, _, _) => Nat.blt (j + 1) (ab_mx y)
  | (.iinc j z, a, b, _) => Nat.blt j (ab_mx y) && (match a with
    | 0 => decide (Int32.ofInt z = nI b)
    | _ => decide (Int32.ofInt z = -nI b))
  | (.iconst z, a, b, _) => match a with
    | 0 => decide (Int32.ofInt z = nI b)
    | _ => decide (Int32.ofInt z = -nI b)
  | (.bipush z, a, b, _) => match a with
    | 0 => decide ((Int8.ofInt z).toInt32 = nI b)
    | _ => decide ((Int8.ofInt z).toInt32 = -nI b)
  | (.sipush z, a, b, _) => match a with
    | 0 => decide ((Int16.ofInt z).toInt32 = nI b)
    | _ => decide ((Int16.ofInt z).toInt32 = -nI b)
  | (.ldc2_w i, a, b, c) => decide ((ab_kl[c]?).map ab_kk4 = some (ab_oc y, i, a, b))
  | (.ldc i, a, _, _) => match ab_str[a]? with
    | some q => decide (q.1 = ab_cn (ab_oc y)) && decide (q.2.1 = i)
    | none => false
  | (.getstatic i, a, _, _) => (decide (a = 952) && decide (lw_tbl[685]? = some (.fieldLink (ab_cn (ab_oc y)) i "java/lang/String" "COMPACT_STRINGS" "Z"))) || (decide (a = 953) && decide (lw_tbl[701]? = some (.fieldLink (ab_cn (ab_oc y)) i "jdk/internal/util/Preconditions" "SIOOBE_FORMATTER" "Ljava/util/function/BiFunction;")))
  | (.goto o, a, _, _) => decide ((pc : Int) + o = (a : Int))
  | (.ifCond _ o, a, _, _) => decide ((pc : Int) + o = (a : Int))
  | (.if_icmp _ o, a, _, _) => decide ((pc : Int) + o = (a : Int))
  | (.ifnull o, a, _, _) => decide ((pc : Int) + o = (a : Int))
  | (.ifnonnull o, a, _, _) => decide ((pc : Int) + o = (a : Int))
  | (.tableswitch d lo hi offs, _, _, _) => decide (lo = 0) && decide (hi + 1 = offs.size) && decide (offs.size < 1000) && (d :: offs.toList).all (fun o => decide (0 ≤ (pc : Int) + o))
  | (.getfield i, a, b, c) => (decide (a = 950) && decide (lw_tbl[1954]? = some (.fieldLink (ab_cn (ab_oc y)) i "java/lang/String" "value" "[B"))) || (decide (a = 951) && decide (lw_tbl[1955]? = some (.fieldLink (ab_cn (ab_oc y)) i "java/lang/String" "coder" "B"))) || decide ((ab_fl[c]?).map ab_k4 = some (ab_oc y, i, a, b)) && Nat.blt a 13 && Nat.blt b (ab_C3 a).2.2
  | (.putfield i, a, b, c) => decide ((ab_fl[c]?).map ab_k4 = some (ab_oc y, i, a, b)) && Nat.blt a 13 && Nat.blt b (ab_C3 a).2.2 && ab_finOk y a b
  | (.newarray t, a, b, _) => ab_atq t a && Nat.ble b 60000
  | (.anewarray i, _, b, c) => decide ((ab_nl[c]?).map ab_kn3 = some (ab_oc y, i, 6)) && Nat.ble b 60000
  | (.new i, a, b, c) => Nat.ble 13 a || (decide ((ab_nl[c]?).map ab_kn3 = some (ab_oc y, i, a)) && decide (b = (ab_C3 a).2.2))
  | (.invokevirtual i, a, b, c) => Nat.ble 900 a || ((Nat.blt (ab_oc a) 13 || Nat.beq (ab_oc a) 15) && decide ((ab_ml[c]?).map ab_kk3 = some (ab_oc y, i, a)) && Nat.beq (ab_kd a) 0 && decide ((ab_nps a).map (· + 1) = some b) && ab_room y a)
  | (.invokestatic i, a, b, c) => Nat.ble 900 a || (decide ((ab_ml[c]?).map ab_kk3 = some (ab_oc y, i, a)) && Nat.beq (ab_kd a) 1 && decide (ab_nps a = some b) && ab_room y a)
  | (.invokespecial i, a, b, c) => match Nat.beq a 903 with
    | true => decide ((ab_ml[c]?).map ab_kk3 = some (ab_oc y, i, a)) && Nat.ble 1 (ab_fr y) && Nat.ble 20 (ab_lo y)
    | false => Nat.ble 900 a || (decide ((ab_ml[c]?).map ab_kk3 = some (ab_oc y, i, a)) && Nat.beq (ab_kd a) 2 && decide ((ab_nps a).map (· + 1) = some b) && ab_room y a)
  | (.ireturn, _, _, _) => (ab_rt y).isSome
  | _ => true
def ab_okc (y : Nat) : Nat → List ab_Ent → Bool
  | _, [] => true
  | pc, e :: k => (match decode (ab_by y) pc with
    | .ok (i, len) => decide (i = e.1) && Nat.beq len (ab_lnp pc e.1)
    | _ => false) && ab_lk y pc e && ab_okc y (pc + ab_lnp pc e.1) k
theorem ab_okc_cons {e : ab_Ent} {k : List ab_Ent} (h : ab_okc y pc (e :: k) = true) : decode (ab_by y) pc = .ok (e.1, ab_lnp pc e.1) ∧ ab_lk y pc e = true ∧ ab_okc y (pc + ab_lnp pc e.1) k = true := by
  unfold ab_okc at h
  rw [Bool.and_eq_true, Bool.and_eq_true] at h
  obtain ⟨⟨h1, h2⟩, h3⟩ := h
  refine ⟨?_, h2, h3⟩
  split at h1
  · rename_i i len hd
    rw [Bool.and_eq_true, decide_eq_true_eq] at h1
    rw [hd, h1.1, Nat.eq_of_beq_eq_true h1.2]
  · cases h1
theorem ab_okc_drop (t : Nat) : ∀ (k : List ab_Ent) (pc : Nat), ab_okc y pc k = true → ab_okc y t (ab_drop t pc k) = true
  | [], _, _ => rfl
  | e :: k, pc, h => by
    unfold ab_drop
    split
    · rename_i hb
      rw [← Nat.eq_of_beq_eq_true hb]
      exact h
    · exact ab_okc_drop t k _ (ab_okc_cons h).2.2
theorem ab_fl_ok : ab_fl.all (fun q => match q.2.2.2.2.1 with
    | 0 => decide (lw_tbl[q.2.2.2.2.2]? = some (ab_flw q.1 q.2.1 q.2.2.1 q.2.2.2.1))
    | _ => decide (lw_tbl[q.2.2.2.2.2]? = some (ab_flN q.1 q.2.1 q.2.2.1 q.2.2.2.1)) && !(ab_T q.2.2.1 q.2.2.2.1).2.2.2) = true := by decide +kernel
theorem ab_ml_ok : ab_ml.all (fun q => Nat.ble 900 q.2.2.1 || match q.2.2.2.1 with
    | 0 => decide (lw_tbl[q.2.2.2.2]? = some (ab_mlw q.1 q.2.1 q.2.2.1))
    | _ => decide (lw_tbl[q.2.2.2.2]? = some (ab_mlN q.1 q.2.1 q.2.2.1))) = true := by decide +kernel
theorem ab_ml_ok2 : ab_ml.all (fun q => !(Nat.beq q.2.2.1 903) || decide (lw_tbl[q.2.2.2.2]? = some (.methodLink (ab_cn q.1) q.2.1 objectInit))) = true := by decide +kernel
theorem ab_nl_ok : ab_nl.all (fun q => Nat.ble 13 q.2.2.1 || decide (lw_tbl[q.2.2.2]? = some (.classLink (ab_cn q.1) q.2.1 (ab_C3 q.2.2.1).1))) = true := by decide +kernel
theorem ab_kl_ok : ab_kl.all (fun q => decide (lw_tbl[q.2.2.2.2]? = some (.constantLong (ab_cn q.1) q.2.1 (match q.2.2.1 with
    | 0 => lN q.2.2.2.1
    | _ => -lN q.2.2.2.1)))) = true := by decide +kernel
theorem ab_cl_ok : ∀ ci, ci < 13 → Cond.instantiable (ab_C3 ci).1 (ab_C3 ci).2.2 ∈ lw_tbl ∧ Cond.initialized (ab_C3 ci).1 ∈ lw_tbl := by decide +kernel
theorem ab_ac_ok : Cond.arrayClass .int ∈ lw_tbl ∧ Cond.arrayClass .long ∈ lw_tbl ∧ Cond.arrayClass .boolean ∈ lw_tbl := by decide +kernel
end ABF
