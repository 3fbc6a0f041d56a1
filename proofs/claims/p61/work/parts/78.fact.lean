/-! THE LAW'S ENTRY, part 1: what the Statement gives of constants (printed by wip/p61/gen_fact.py). -/
section
variable {S0 : State} {args : Array Value}
theorem ak_of {tm : Term} {ty : FieldType} {N : Nat} {f : Nat → Value} (hN : N < 2 ^ 31) (harr : (Cond.arrayOf tm ty).before args S0 = true) (hlen : (Term.length tm).eval args S0 none [] S0 = some (.int (Int32.ofNat N))) (hel : ∀ j : Nat, j < N → (Term.elem tm (.int (Int32.ofNat j))).eval args S0 none [] S0 = some (f j)) : ∃ t : Nat, tm.eval args S0 none [] S0 = some (.ref t) ∧ t < S0.heap.size ∧ AK (hRO S0 t) ty false N f := by
  obtain ⟨t, h1, cell, h2, h3, h4, h5, h6, h7, _⟩ := va_Tof (A := fun _ => False) hN harr hlen hel (fun _ _ h => h)
  have hlt : t < S0.heap.size := (Array.getElem?_eq_some_iff.mp h2).1
  refine ⟨t, h1, hlt, cell.slots.toList, hRO_of ⟨hlt, cell, h2, h3, h4, rfl⟩, ?_, fun i hi => ?_⟩
  · rw [Array.length_toList]; exact h6
  · rw [Array.getElem?_toList]; exact h7 i hi
theorem G0_st {k x : Nat} {C n d : String} {v : Value} (hk : Nat.blt k 100 = true) (hg : gsT k x = some (C, n, d)) (h : (Term.static C n d).eval args S0 none [] S0 = some v) : G0 S0 k x = some v := by
  unfold G0; rw [hk]
  show ((gsT k x).bind _) = _
  rw [hg]; exact h
theorem G0_w {x : Nat} {tx : String} {v : Value} (hs : strT 0 x = some tx) (h : (Term.string "CloudInterviewsLaw" x).eval args S0 none [] S0 = some v) : G0 S0 100 x = some v := by
  show ((strT 0 x).bind fun _ => (Term.string (ownT 0) x).eval #[] S0 none [] S0) = _
  rw [hs]; exact h
noncomputable def strB (pl : Nat) (tm : Term) (t : List Nat) : Bool := flB pl (.exactly tm "java/lang/String") && (flB (pl + 1) (.eq (.field tm "java/lang/String" "coder" "B") (.int 0)) && (flB (pl + 2) (.arrayOf (.field tm "java/lang/String" "value" "[B") .byte) && (flB (pl + 3) (.eq (.length (.field tm "java/lang/String" "value" "[B")) (.int (Int32.ofNat t.length))) && (allB t.length (fun j => flB (pl + 4 + j) (.eq (.elem (.field tm "java/lang/String" "value" "[B") (.int (Int32.ofNat j))) (.int (nI (t.getD j 0))))) && (t.all (fun c => Nat.blt c 128) && Nat.blt t.length 100)))))
theorem mark_of {ci a : Nat} {tm : Term} {cls : String} (hci : 100 ≤ ci) (hr : roC ci = cls) (hx : (Cond.exactly tm cls).before args S0 = true) (e : tm.eval args S0 none [] S0 = some (.ref a)) : (G0 S0 (roK ci 9) a).isSome = true := by
  obtain ⟨a', c, cell, k, e1, e2, e3, e4, e5, e6, _⟩ := Cond.exactly_spec hx
  cases e.symm.trans e1
  rw [G0_mk hci]; unfold roMark; rw [e3]
  show (if cell.vm.isStatics = false ∧ S0.vm.findClass (roC ci) = some cell.cls then some (Value.int 0) else none).isSome = true
  rw [if_pos ⟨e5, by rw [hr, e6]; exact e2⟩]; rfl
theorem str_of (h : NarAt S0 args) {pl : Nat} {tm : Term} {t : List Nat} (hb : strB pl tm t = true) : ∃ a, tm.eval args S0 none [] S0 = some (.ref a) ∧ STR (G0 S0) (hRO S0) S0.heap.size a t := by
  unfold strB at hb
  simp only [Bool.and_eq_true] at hb
  obtain ⟨b1, b2, b3, b4, b5, b6, b7⟩ := hb
  have h100 : t.length < 100 := Nat.le_of_ble_eq_true b7
  obtain ⟨a, c, cell, k, e1, -⟩ := Cond.exactly_spec (flB_ok h b1)
  obtain ⟨va, e7, e8, e9⟩ := ak_of (tm := .field tm "java/lang/String" "value" "[B") (ty := .byte) (N := t.length) (f := fun j => .int (nI (t.getD j 0))) (by omega) (flB_ok h b3) (va_eqt (flB_ok h b4)) (fun j hj => va_eqt (flB_ok h (allB_ok b5 j hj)))
  rw [va_fe e1] at e7
  have e10 := va_eqt (flB_ok h b2)
  rw [va_fe e1] at e10
  exact ⟨a, e1, ⟨mark_of (ci := 100) (by omega) rfl (flB_ok h b1) e1, (G0_ro (ci := 100) (f := 1) (by omega) (by omega)).trans e10⟩, fun c hc => Nat.le_of_ble_eq_true (List.all_eq_true.mp b6 c hc), h100, va, e8, (G0_ro (ci := 100) (f := 0) (by omega) (by omega)).trans e7, e9⟩
noncomputable def arrB (pa pl pe : Nat) (tm : Term) (ty : FieldType) (N : Nat) (g : Nat → Term) : Bool := flB pa (.arrayOf tm ty) && (flB pl (.eq (.length tm) (.int (Int32.ofNat N))) && (allB N (fun j => flB (pe + j) (.eq (.elem tm (.int (Int32.ofNat j))) (g j))) && Nat.blt N 1000))
theorem arr_of (h : NarAt S0 args) {pa pl pe : Nat} {tm : Term} {ty : FieldType} {N : Nat} {g : Nat → Term} (hb : arrB pa pl pe tm ty N g = true) {f : Nat → Value} (hg : ∀ j, j < N → (g j).eval args S0 none [] S0 = some (f j)) : ∃ t : Nat, tm.eval args S0 none [] S0 = some (.ref t) ∧ t < S0.heap.size ∧ AK (hRO S0 t) ty false N f := by
  unfold arrB at hb
  simp only [Bool.and_eq_true] at hb
  obtain ⟨b1, b2, b3, b4⟩ := hb
  have h1000 : N < 1000 := Nat.le_of_ble_eq_true b4
  exact ak_of (by omega) (flB_ok h b1) (va_eqt (flB_ok h b2)) (fun j hj => va_eqv (flB_ok h (allB_ok b3 j hj)) (hg j hj))
def fN : Nat → String × Nat
  | 0 => ("NO_FAULT", 1012)
  | 1 => ("BAD_ARGUMENT", 1007)
  | 2 => ("BAD_STATE", 1009)
  | 3 => ("NOTHING_THERE", 1018)
  | 4 => ("NO_POST", 1023)
  | 5 => ("UNSUITED", 1029)
  | _ => ("", 0)
def kN : Nat → String × Nat × Nat × Nat
  | 0 => ("APPLY", 1268, 55, 4171)
  | 1 => ("LEAVE", 1277, 61, 4185)
  | 2 => ("POST", 1287, 64, 4196)
  | 3 => ("CLOSE", 1298, 67, 4211)
  | 4 => ("HIRE", 1310, 70, 4222)
  | 5 => ("DISMISS", 1323, 73, 4234)
  | 6 => ("REFER", 1337, 76, 4247)
  | 7 => ("MATCH", 1352, 79, 4260)
  | 8 => ("DAY", 1368, 82, 4269)
  | _ => ("", 0, 0, 0)
def wP : Nat → Nat
  | 166 => 2068
  | 349 => 3212
  | 357 => 3216
  | 359 => 3221
  | 365 => 3233
  | 367 => 3238
  | 376 => 3369
  | 378 => 3374
  | 404 => 3379
  | 409 => 4020
  | 419 => 4029
  | 421 => 4051
  | 423 => 4063
  | _ => 0
def lwT : Nat → List Nat
  | 166 => [99, 115, 110]
  | 349 => []
  | 357 => [47]
  | 359 => [43]
  | 365 => [36]
  | 367 => [64]
  | 376 => [32]
  | 378 => [45]
  | 404 => [99, 115, 110, 120]
  | 409 => [99, 115, 110, 42, 120]
  | 419 => [100, 97, 121, 59, 109, 97, 116, 99, 104, 59, 100, 105, 115, 109, 105, 115, 115, 32]
  | 421 => [59, 97, 112, 112, 108, 121, 32, 99]
  | 423 => [47, 51]
  | _ => []
def lwW : List Nat := [166, 349, 357, 359, 365, 367, 376, 378, 404, 409, 419, 421, 423]
def fTm (i : Nat) : Term := .static "CloudInterviews$Fault" (fN i).1 "LCloudInterviews$Fault;"
def kTm (i : Nat) : Term := .static "CloudInterviews$CommandKind" (kN i).1 "LCloudInterviews$CommandKind;"
def fB (i : Nat) : Bool := flB (fN i).2 (.exactly (fTm i) "CloudInterviews$Fault") && flB ((fN i).2 + 1) (.eq (.field (fTm i) "java/lang/Enum" "ordinal" "I") (.int (nI i)))
noncomputable def kB (i : Nat) : Bool := flB (kN i).2.1 (.exactly (kTm i) "CloudInterviews$CommandKind") && (flB ((kN i).2.1 + 1) (.eq (.field (kTm i) "java/lang/Enum" "ordinal" "I") (.int (nI i))) && (flB ((kN i).2.1 + 2) (.eq (.field (kTm i) "CloudInterviews$CommandKind" "form" "Ljava/lang/String;") (.string "CloudInterviews$CommandKind" (kN i).2.2.1)) && strB (kN i).2.2.2 (.string "CloudInterviews$CommandKind" (kN i).2.2.1) (forms i)))
theorem fB_all : allB 6 fB = true := by decide +kernel
theorem kB_all : allB 9 kB = true := by decide +kernel
theorem wB_all : lwW.all (fun i => strB (wP i) (.string "CloudInterviewsLaw" i) (lwT i) && (strT 0 i).isSome) = true := by decide +kernel
theorem do_all : arrB 1037 1038 1039 (.static "java/lang/Integer" "DigitOnes" "[B") .byte 100 (fun j => .int (nI (48 + j % 10))) = true := by decide +kernel
theorem dt_all : arrB 1140 1141 1142 (.static "java/lang/Integer" "DigitTens" "[B") .byte 100 (fun j => .int (nI (48 + j / 10))) = true := by decide +kernel
theorem kd_all : arrB 1244 1245 1247 (.static "CloudInterviews$CommandText" "KINDS" "[LCloudInterviews$CommandKind;") (.object "CloudInterviews$CommandKind") 9 kTm = true := by decide +kernel
theorem sw_all : arrB 1257 1258 1259 (.static "CloudInterviews$1" "$SwitchMap$CloudInterviews$CommandKind" "[I") .int 9 (fun j => .int (swv j)) = true := by decide +kernel
theorem env_fl (h : NarAt S0 args) : ∃ fl : Nat → Nat, ∀ i, i < 6 → (fTm i).eval args S0 none [] S0 = some (.ref (fl i)) ∧ S0.fieldOf? (fl i) "java/lang/Enum" "ordinal" "I" = some (.int (nI i)) := by
  have h0 : ∀ i : Nat, ∃ a : Nat, i < 6 → (fTm i).eval args S0 none [] S0 = some (.ref a) ∧ S0.fieldOf? a "java/lang/Enum" "ordinal" "I" = some (.int (nI i)) := by
    intro i
    by_cases hi : i < 6
    · have hb := allB_ok fB_all i hi
      unfold fB at hb
      rw [Bool.and_eq_true] at hb
      obtain ⟨a, c, cell, k, e1, -⟩ := Cond.exactly_spec (flB_ok h hb.1)
      have e2 := va_eqt (flB_ok h hb.2)
      rw [va_fe e1] at e2
      exact ⟨a, fun _ => ⟨e1, e2⟩⟩
    · exact ⟨0, fun h => absurd h hi⟩
  obtain ⟨f, hf⟩ := Classical.axiomOfChoice h0
  exact ⟨f, hf⟩
theorem env_kd (h : NarAt S0 args) : ∃ kd : Nat → Nat, ∀ i, i < 9 → (kTm i).eval args S0 none [] S0 = some (.ref (kd i)) ∧ (∃ f, G0 S0 2011 (kd i) = some (.ref f) ∧ STR (G0 S0) (hRO S0) S0.heap.size f (forms i)) ∧ G0 S0 2010 (kd i) = some (.int (nI i)) ∧ (G0 S0 2019 (kd i)).isSome = true := by
  have h0 : ∀ i : Nat, ∃ a : Nat, i < 9 → (kTm i).eval args S0 none [] S0 = some (.ref a) ∧ (∃ f, G0 S0 2011 a = some (.ref f) ∧ STR (G0 S0) (hRO S0) S0.heap.size f (forms i)) ∧ G0 S0 2010 a = some (.int (nI i)) ∧ (G0 S0 2019 a).isSome = true := by
    intro i
    by_cases hi : i < 9
    · have hb := allB_ok kB_all i hi
      unfold kB at hb
      simp only [Bool.and_eq_true] at hb
      obtain ⟨b1, b2, b3, b4⟩ := hb
      obtain ⟨a, c, cell, k, e1, -⟩ := Cond.exactly_spec (flB_ok h b1)
      have e2 := va_eqt (flB_ok h b2)
      rw [va_fe e1] at e2
      obtain ⟨f, s1, s2⟩ := str_of h b4
      have e3 := va_eqv (flB_ok h b3) s1
      rw [va_fe e1] at e3
      exact ⟨a, fun _ => ⟨e1, ⟨f, (G0_ro (ci := 101) (f := 1) (by omega) (by omega)).trans e3, s2⟩, (G0_ro (ci := 101) (f := 0) (by omega) (by omega)).trans e2, mark_of (ci := 101) (by omega) rfl (flB_ok h b1) e1⟩⟩
    · exact ⟨0, fun h => absurd h hi⟩
  obtain ⟨f, hf⟩ := Classical.axiomOfChoice h0
  exact ⟨f, hf⟩
theorem env_of (h : NarAt S0 args) : ∃ fl kd, (GF (G0 S0) fl ∧ GS (G0 S0) ∧ GB (G0 S0)) ∧ (KN (G0 S0) (hRO S0) S0.heap.size kd ∧ SW (G0 S0) (hRO S0) S0.heap.size) ∧ DG (G0 S0) (hRO S0) S0.heap.size ∧ ∀ i, i ∈ lwW → KT (G0 S0) S0.heap.size (hRO S0) i ((lwT i).map nI) := by
  obtain ⟨fl, hfl⟩ := env_fl h
  obtain ⟨kd, hkd⟩ := env_kd h
  have hcs : (Term.static "java/lang/String" "COMPACT_STRINGS" "Z").eval args S0 none [] S0 = some (.int 1) := va_eqt (flB_ok h (pl := 1002) (by decide +kernel))
  obtain ⟨a1, o1, o2, o3⟩ := arr_of h do_all (fun j _ => rfl)
  obtain ⟨a2, t1, t2, t3⟩ := arr_of h dt_all (fun j _ => rfl)
  obtain ⟨ka, k1, k2, k3⟩ := arr_of h kd_all (f := fun i => .ref (kd i)) (fun j hj => (hkd j hj).1)
  obtain ⟨sw, w1, w2, w3⟩ := arr_of h sw_all (fun j _ => rfl)
  refine ⟨fl, kd, ⟨⟨⟨?_, ?_, ?_, ?_, ?_, ?_⟩, ⟨?_, ?_, ?_, ?_, ?_, ?_⟩, fun i j hi hj he => ?_⟩, ⟨G0_st rfl rfl hcs, ?_⟩, G0_st rfl rfl hcs⟩, ⟨⟨⟨ka, G0_st rfl rfl k1, k2, _, false, rfl, k3⟩, fun i hi => (hkd i hi).2⟩, ⟨sw, false, G0_st rfl rfl w1, w2, w3⟩⟩, ⟨⟨a1, false, o2, G0_st rfl rfl o1, o3⟩, a2, false, t2, G0_st rfl rfl t1, t3⟩, fun i hi => ?_⟩
  · exact G0_st rfl rfl (hfl 0 (by omega)).1
  · exact G0_st rfl rfl (hfl 1 (by omega)).1
  · exact G0_st rfl rfl (hfl 2 (by omega)).1
  · exact G0_st rfl rfl (hfl 3 (by omega)).1
  · exact G0_st rfl rfl (hfl 4 (by omega)).1
  · exact G0_st rfl rfl (hfl 5 (by omega)).1
  · exact G0_st rfl rfl (hfl 0 (by omega)).1
  · exact G0_st rfl rfl (hfl 1 (by omega)).1
  · exact G0_st rfl rfl (hfl 2 (by omega)).1
  · exact G0_st rfl rfl (hfl 3 (by omega)).1
  · exact G0_st rfl rfl (hfl 4 (by omega)).1
  · exact G0_st rfl rfl (hfl 5 (by omega)).1
  · have e1 := (hfl i hi).2
    have e2 := (hfl j hj).2
    rw [he] at e1
    have e3 := e1.symm.trans e2
    injection e3 with e4
    injection e4 with e5
    exact nI_inj (by omega) (by omega) e5
  · obtain ⟨v, v1, v2⟩ := Cond.isRef_spec (flB_ok h (pl := 1003) (w := .isRef (.static "jdk/internal/util/Preconditions" "SIOOBE_FORMATTER" "Ljava/util/function/BiFunction;")) (by decide +kernel))
    cases v with
    | null => exact Or.inl (G0_st rfl rfl v1)
    | ref q => exact Or.inr ⟨q, G0_st rfl rfl v1⟩
    | _ => cases v2
  · have hb := List.all_eq_true.mp wB_all i hi
    rw [Bool.and_eq_true] at hb
    obtain ⟨a, e1, e2⟩ := str_of h hb.1
    cases hs : strT 0 i with
    | none => rw [hs] at hb; cases hb.2
    | some tx => exact ⟨a, G0_w hs e1, TX_str e2⟩
end
