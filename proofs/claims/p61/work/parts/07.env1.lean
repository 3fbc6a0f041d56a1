/-! THE ENVIRONMENT at the law's entry, part 1: constants and read-only arrays (printed by wip/whole/gen_env.py) -/
def aRO (S0 : State) (q : Nat) (t : FieldType) (l : List Value) : Prop := q < S0.heap.size ∧ ∃ cell : Cell, S0.heap[q]? = some cell ∧ S0.isArrayOf cell t ∧ cell.vm ≠ .unknown ∧ cell.slots.toList = l
theorem aRO_uniq {S0 : State} {q : Nat} {t t' : FieldType} {l l' : List Value} (h : aRO S0 q t l) (h' : aRO S0 q t' l') : t = t' ∧ l = l' := by
  obtain ⟨-, c, a1, ⟨-, k, a2, cm, a3⟩, -, a5⟩ := h
  obtain ⟨-, c', b1, ⟨-, k', b2, cm', b3⟩, -, b5⟩ := h'
  cases a1.symm.trans b1
  cases a2.symm.trans b2
  have h9 := a3.symm.trans b3
  injection h9 with e1 e2
  exact ⟨e2, a5.symm.trans b5⟩
noncomputable def hRO (S0 : State) : Hp := fun q => @dite (Option Cel) (∃ z : FieldType × List Value, aRO S0 q z.1 z.2) (Classical.propDecidable _) (fun h => some (.inl (h.choose.1, false, h.choose.2))) (fun _ => none)
theorem hRO_of {S0 : State} {q : Nat} {t : FieldType} {l : List Value} (h : aRO S0 q t l) : hRO S0 q = some (.inl (t, false, l)) := by
  have hex : ∃ z : FieldType × List Value, aRO S0 q z.1 z.2 := ⟨(t, l), h⟩
  unfold hRO
  rw [dif_pos hex]
  obtain ⟨e1, e2⟩ := aRO_uniq hex.choose_spec h
  rw [e1, e2]
theorem hRO_some {S0 : State} {q : Nat} {c : Cel} (h : hRO S0 q = some c) : ∃ t l, c = .inl (t, false, l) ∧ aRO S0 q t l := by
  unfold hRO at h
  by_cases hex : ∃ z : FieldType × List Value, aRO S0 q z.1 z.2
  · rw [dif_pos hex] at h
    cases h
    exact ⟨_, _, rfl, hex.choose_spec⟩
  · rw [dif_neg hex] at h
    cases h
theorem Rep0 (S0 : State) (D : va_G) (dA : FieldType → ClassId) : Rep S0 D dA (hRO S0, S0.heap.size, 0) S0.heap := by
  refine ⟨rfl, Nat.le_refl _, fun _ _ => rfl, fun q c h => ?_⟩
  obtain ⟨t, l, rfl, h1⟩ := hRO_some h
  exact h1
def gsT_1 (x : Nat) : Option (String × String × String) := (cond (Nat.ble 393 x) (cond (Nat.ble 401 x) (cond (Nat.ble 417 x) (cond (Nat.beq x 417) (some ("CloudInterviews$1", "$SwitchMap$CloudInterviews$CommandKind", "[I")) none) (cond (Nat.beq x 401) (some ("CloudInterviews$Fault", "UNSUITED", "LCloudInterviews$Fault;")) none)) (cond (Nat.ble 398 x) (cond (Nat.beq x 398) (some ("CloudInterviews$Fault", "NO_POST", "LCloudInterviews$Fault;")) none) (cond (Nat.beq x 393) (some ("CloudInterviews$Fault", "NOTHING_THERE", "LCloudInterviews$Fault;")) none))) (cond (Nat.ble 383 x) (cond (Nat.ble 388 x) (cond (Nat.beq x 388) (some ("CloudInterviews$Fault", "BAD_STATE", "LCloudInterviews$Fault;")) none) (cond (Nat.beq x 383) (some ("CloudInterviews$Fault", "BAD_ARGUMENT", "LCloudInterviews$Fault;")) none)) (cond (Nat.beq x 107) (some ("CloudInterviews$Fault", "NO_FAULT", "LCloudInterviews$Fault;")) none)))
def gsT_3 (x : Nat) : Option (String × String × String) := (cond (Nat.ble 67 x) (cond (Nat.ble 93 x) (cond (Nat.ble 109 x) (cond (Nat.beq x 109) (some ("CloudInterviews$Fault", "UNSUITED", "LCloudInterviews$Fault;")) none) (cond (Nat.beq x 93) (some ("CloudInterviews$Fault", "NO_POST", "LCloudInterviews$Fault;")) none)) (cond (Nat.beq x 67) (some ("CloudInterviews$Fault", "NOTHING_THERE", "LCloudInterviews$Fault;")) none)) (cond (Nat.ble 53 x) (cond (Nat.ble 60 x) (cond (Nat.beq x 60) (some ("CloudInterviews$Fault", "NO_FAULT", "LCloudInterviews$Fault;")) none) (cond (Nat.beq x 53) (some ("CloudInterviews$Fault", "BAD_STATE", "LCloudInterviews$Fault;")) none)) (cond (Nat.beq x 44) (some ("CloudInterviews$Fault", "BAD_ARGUMENT", "LCloudInterviews$Fault;")) none)))
def gsT_4 (x : Nat) : Option (String × String × String) := (cond (Nat.beq x 47) (some ("CloudInterviews$CommandText", "KINDS", "[LCloudInterviews$CommandKind;")) none)
def gsT_8 (x : Nat) : Option (String × String × String) := (cond (Nat.beq x 18) (some ("java/lang/String", "COMPACT_STRINGS", "Z")) none)
def gsT_10 (x : Nat) : Option (String × String × String) := (cond (Nat.ble 87 x) (cond (Nat.beq x 87) (some ("java/lang/Integer", "DigitTens", "[B")) none) (cond (Nat.beq x 83) (some ("java/lang/Integer", "DigitOnes", "[B")) none))
def gsT_12 (x : Nat) : Option (String × String × String) := (cond (Nat.ble 1053 x) (cond (Nat.beq x 1053) (some ("jdk/internal/util/Preconditions", "SIOOBE_FORMATTER", "Ljava/util/function/BiFunction;")) none) (cond (Nat.beq x 38) (some ("java/lang/String", "COMPACT_STRINGS", "Z")) none))
def gsT (k x : Nat) : Option (String × String × String) := cond (Nat.blt k 18) (cond (Nat.blt x 1100) (cond (Nat.ble 8 k) (cond (Nat.ble 10 k) (cond (Nat.ble 12 k) (cond (Nat.beq k 12) (gsT_12 x) none) (cond (Nat.beq k 10) (gsT_10 x) none)) (cond (Nat.beq k 8) (gsT_8 x) none)) (cond (Nat.ble 3 k) (cond (Nat.ble 4 k) (cond (Nat.beq k 4) (gsT_4 x) none) (cond (Nat.beq k 3) (gsT_3 x) none)) (cond (Nat.beq k 1) (gsT_1 x) none))) none) none
def strT_0 (x : Nat) : Option String := (cond (Nat.ble 376 x) (cond (Nat.ble 409 x) (cond (Nat.ble 421 x) (cond (Nat.ble 423 x) (cond (Nat.beq x 423) (some "/3") none) (cond (Nat.beq x 421) (some ";apply c") none)) (cond (Nat.ble 419 x) (cond (Nat.beq x 419) (some "day;match;dismiss ") none) (cond (Nat.beq x 409) (some "csn*x") none))) (cond (Nat.ble 378 x) (cond (Nat.ble 404 x) (cond (Nat.beq x 404) (some "csnx") none) (cond (Nat.beq x 378) (some "-") none)) (cond (Nat.beq x 376) (some " ") none))) (cond (Nat.ble 359 x) (cond (Nat.ble 365 x) (cond (Nat.ble 367 x) (cond (Nat.beq x 367) (some "@") none) (cond (Nat.beq x 365) (some "$") none)) (cond (Nat.beq x 359) (some "+") none)) (cond (Nat.ble 349 x) (cond (Nat.ble 357 x) (cond (Nat.beq x 357) (some "/") none) (cond (Nat.beq x 349) (some "") none)) (cond (Nat.beq x 166) (some "csn") none))))
def strT_1 (x : Nat) : Option String := (cond (Nat.ble 302 x) (cond (Nat.ble 367 x) (cond (Nat.ble 391 x) (cond (Nat.ble 396 x) (cond (Nat.ble 404 x) (cond (Nat.beq x 404) (some "the applicant does not suit the post") none) (cond (Nat.beq x 396) (some "there is no such applicant or reference") none)) (cond (Nat.beq x 391) (some "the board does not allow it now") none)) (cond (Nat.ble 372 x) (cond (Nat.ble 386 x) (cond (Nat.beq x 386) (some "an argument is not as it must be") none) (cond (Nat.beq x 372) (some "there is no such post") none)) (cond (Nat.beq x 367) (some "the applicant is waiting") none))) (cond (Nat.ble 351 x) (cond (Nat.ble 358 x) (cond (Nat.ble 365 x) (cond (Nat.beq x 365) (some "there is no such applicant") none) (cond (Nat.beq x 358) (some "there is no change to undo") none)) (cond (Nat.beq x 351) (some "a command fails") none)) (cond (Nat.ble 326 x) (cond (Nat.ble 337 x) (cond (Nat.beq x 337) (some "the text is malformed") none) (cond (Nat.beq x 326) (some "the input buffer is full") none)) (cond (Nat.beq x 302) (some "there is no such character") none)))) (cond (Nat.ble 226 x) (cond (Nat.ble 269 x) (cond (Nat.ble 276 x) (cond (Nat.ble 282 x) (cond (Nat.beq x 282) (some "there are no posts") none) (cond (Nat.beq x 276) (some "there are no applicants") none)) (cond (Nat.beq x 269) (some "the applicant will never be dismissed") none)) (cond (Nat.ble 236 x) (cond (Nat.ble 261 x) (cond (Nat.beq x 261) (some "the number of days is not from 1 to 30") none) (cond (Nat.beq x 236) (some "the post is filled") none)) (cond (Nat.beq x 226) (some "no waiting applicant suits the post") none))) (cond (Nat.ble 154 x) (cond (Nat.ble 212 x) (cond (Nat.ble 221 x) (cond (Nat.beq x 221) (some "the applicant suits no post") none) (cond (Nat.beq x 212) (some "the post is vacant") none)) (cond (Nat.beq x 154) (some "there is no such rank") none)) (cond (Nat.ble 122 x) (cond (Nat.beq x 122) (some "there is no such position") none) (cond (Nat.beq x 99) (some "the limit is not from 0 to 50") none)))))
def strT_15 (x : Nat) : Option String := (cond (Nat.beq x 337) (some " > ") none)
def strT (k x : Nat) : Option String := cond (Nat.blt k 18) (cond (Nat.blt x 1100) (cond (Nat.ble 1 k) (cond (Nat.ble 15 k) (cond (Nat.beq k 15) (strT_15 x) none) (cond (Nat.beq k 1) (strT_1 x) none)) (cond (Nat.beq k 0) (strT_0 x) none)) none) none
def plG_1 (x : Nat) : Nat := (cond (Nat.ble 393 x) (cond (Nat.ble 401 x) (cond (Nat.ble 417 x) (cond (Nat.beq x 417) (8110) 0) (cond (Nat.beq x 401) (4029) 0)) (cond (Nat.ble 398 x) (cond (Nat.beq x 398) (4011) 0) (cond (Nat.beq x 393) (3233) 0))) (cond (Nat.ble 383 x) (cond (Nat.ble 388 x) (cond (Nat.beq x 388) (3216) 0) (cond (Nat.beq x 383) (3143) 0)) (cond (Nat.beq x 107) (4180) 0)))
def plG_3 (x : Nat) : Nat := (cond (Nat.ble 67 x) (cond (Nat.ble 93 x) (cond (Nat.ble 109 x) (cond (Nat.beq x 109) (4158) 0) (cond (Nat.beq x 93) (4145) 0)) (cond (Nat.beq x 67) (4086) 0)) (cond (Nat.ble 53 x) (cond (Nat.ble 60 x) (cond (Nat.beq x 60) (3134) 0) (cond (Nat.beq x 53) (3128) 0)) (cond (Nat.beq x 44) (3126) 0)))
def plG_4 (x : Nat) : Nat := (cond (Nat.beq x 47) (8066) 0)
def plG_8 (x : Nat) : Nat := (cond (Nat.beq x 18) (2187) 0)
def plG_10 (x : Nat) : Nat := (cond (Nat.ble 87 x) (cond (Nat.beq x 87) (7030) 0) (cond (Nat.beq x 83) (7028) 0))
def plG_12 (x : Nat) : Nat := (cond (Nat.ble 1053 x) (cond (Nat.beq x 1053) (3063) 0) (cond (Nat.beq x 38) (3056) 0))
def plG (k x : Nat) : Nat := (cond (Nat.ble 8 k) (cond (Nat.ble 10 k) (cond (Nat.ble 12 k) (cond (Nat.beq k 12) (plG_12 x) 0) (cond (Nat.beq k 10) (plG_10 x) 0)) (cond (Nat.beq k 8) (plG_8 x) 0)) (cond (Nat.ble 3 k) (cond (Nat.ble 4 k) (cond (Nat.beq k 4) (plG_4 x) 0) (cond (Nat.beq k 3) (plG_3 x) 0)) (cond (Nat.beq k 1) (plG_1 x) 0)))
def plGl_1 (x : Nat) : Nat := (cond (Nat.ble 393 x) (cond (Nat.ble 401 x) (cond (Nat.ble 417 x) (cond (Nat.beq x 417) (8111) 0) (cond (Nat.beq x 401) (4030) 0)) (cond (Nat.ble 398 x) (cond (Nat.beq x 398) (4012) 0) (cond (Nat.beq x 393) (3234) 0))) (cond (Nat.ble 383 x) (cond (Nat.ble 388 x) (cond (Nat.beq x 388) (3129) 0) (cond (Nat.beq x 383) (3127) 0)) (cond (Nat.beq x 107) (3135) 0)))
def plGl_3 (x : Nat) : Nat := (cond (Nat.ble 67 x) (cond (Nat.ble 93 x) (cond (Nat.ble 109 x) (cond (Nat.beq x 109) (4030) 0) (cond (Nat.beq x 93) (4012) 0)) (cond (Nat.beq x 67) (3234) 0)) (cond (Nat.ble 53 x) (cond (Nat.ble 60 x) (cond (Nat.beq x 60) (3135) 0) (cond (Nat.beq x 53) (3129) 0)) (cond (Nat.beq x 44) (3127) 0)))
def plGl_4 (x : Nat) : Nat := (cond (Nat.beq x 47) (8067) 0)
def plGl_8 (x : Nat) : Nat := (cond (Nat.beq x 18) (2188) 0)
def plGl_10 (x : Nat) : Nat := (cond (Nat.ble 87 x) (cond (Nat.beq x 87) (7031) 0) (cond (Nat.beq x 83) (7029) 0))
def plGl_12 (x : Nat) : Nat := (cond (Nat.ble 1053 x) (cond (Nat.beq x 1053) (3064) 0) (cond (Nat.beq x 38) (2188) 0))
def plGl (k x : Nat) : Nat := (cond (Nat.ble 8 k) (cond (Nat.ble 10 k) (cond (Nat.ble 12 k) (cond (Nat.beq k 12) (plGl_12 x) 0) (cond (Nat.beq k 10) (plGl_10 x) 0)) (cond (Nat.beq k 8) (plGl_8 x) 0)) (cond (Nat.ble 3 k) (cond (Nat.ble 4 k) (cond (Nat.beq k 4) (plGl_4 x) 0) (cond (Nat.beq k 3) (plGl_3 x) 0)) (cond (Nat.beq k 1) (plGl_1 x) 0)))
def plGi_1 (x : Nat) : Nat := (cond (Nat.ble 393 x) (cond (Nat.ble 401 x) (cond (Nat.ble 417 x) (cond (Nat.beq x 417) (2032) 0) (cond (Nat.beq x 401) (2015) 0)) (cond (Nat.ble 398 x) (cond (Nat.beq x 398) (2015) 0) (cond (Nat.beq x 393) (2015) 0))) (cond (Nat.ble 383 x) (cond (Nat.ble 388 x) (cond (Nat.beq x 388) (2015) 0) (cond (Nat.beq x 383) (2015) 0)) (cond (Nat.beq x 107) (2015) 0)))
def plGi_3 (x : Nat) : Nat := (cond (Nat.ble 67 x) (cond (Nat.ble 93 x) (cond (Nat.ble 109 x) (cond (Nat.beq x 109) (2015) 0) (cond (Nat.beq x 93) (2015) 0)) (cond (Nat.beq x 67) (2015) 0)) (cond (Nat.ble 53 x) (cond (Nat.ble 60 x) (cond (Nat.beq x 60) (2015) 0) (cond (Nat.beq x 53) (2015) 0)) (cond (Nat.beq x 44) (2015) 0)))
def plGi_4 (x : Nat) : Nat := (cond (Nat.beq x 47) (2010) 0)
def plGi_8 (x : Nat) : Nat := (cond (Nat.beq x 18) (2008) 0)
def plGi_10 (x : Nat) : Nat := (cond (Nat.ble 87 x) (cond (Nat.beq x 87) (2025) 0) (cond (Nat.beq x 83) (2025) 0))
def plGi_12 (x : Nat) : Nat := (cond (Nat.ble 1053 x) (cond (Nat.beq x 1053) (2012) 0) (cond (Nat.beq x 38) (2008) 0))
def plGi (k x : Nat) : Nat := (cond (Nat.ble 8 k) (cond (Nat.ble 10 k) (cond (Nat.ble 12 k) (cond (Nat.beq k 12) (plGi_12 x) 0) (cond (Nat.beq k 10) (plGi_10 x) 0)) (cond (Nat.beq k 8) (plGi_8 x) 0)) (cond (Nat.ble 3 k) (cond (Nat.ble 4 k) (cond (Nat.beq k 4) (plGi_4 x) 0) (cond (Nat.beq k 3) (plGi_3 x) 0)) (cond (Nat.beq k 1) (plGi_1 x) 0)))
def plSt_0 (x : Nat) : Nat := (cond (Nat.ble 376 x) (cond (Nat.ble 409 x) (cond (Nat.ble 421 x) (cond (Nat.ble 423 x) (cond (Nat.beq x 423) (8035) 0) (cond (Nat.beq x 421) (8034) 0)) (cond (Nat.ble 419 x) (cond (Nat.beq x 419) (8033) 0) (cond (Nat.beq x 409) (7230) 0))) (cond (Nat.ble 378 x) (cond (Nat.ble 404 x) (cond (Nat.beq x 404) (7215) 0) (cond (Nat.beq x 378) (7193) 0)) (cond (Nat.beq x 376) (7192) 0))) (cond (Nat.ble 359 x) (cond (Nat.ble 365 x) (cond (Nat.ble 367 x) (cond (Nat.beq x 367) (7103) 0) (cond (Nat.beq x 365) (7102) 0)) (cond (Nat.beq x 359) (7041) 0)) (cond (Nat.ble 349 x) (cond (Nat.ble 357 x) (cond (Nat.beq x 357) (7040) 0) (cond (Nat.beq x 349) (6208) 0)) (cond (Nat.beq x 166) (3047) 0))))
def plSt_1 (x : Nat) : Nat := (cond (Nat.ble 302 x) (cond (Nat.ble 367 x) (cond (Nat.ble 391 x) (cond (Nat.ble 396 x) (cond (Nat.ble 404 x) (cond (Nat.beq x 404) (4040) 0) (cond (Nat.beq x 396) (4004) 0)) (cond (Nat.beq x 391) (3226) 0)) (cond (Nat.ble 372 x) (cond (Nat.ble 386 x) (cond (Nat.beq x 386) (3190) 0) (cond (Nat.beq x 372) (4022) 0)) (cond (Nat.beq x 367) (5128) 0))) (cond (Nat.ble 351 x) (cond (Nat.ble 358 x) (cond (Nat.ble 365 x) (cond (Nat.beq x 365) (4096) 0) (cond (Nat.beq x 358) (8130) 0)) (cond (Nat.beq x 351) (8118) 0)) (cond (Nat.ble 326 x) (cond (Nat.ble 337 x) (cond (Nat.beq x 337) (8096) 0) (cond (Nat.beq x 326) (8046) 0)) (cond (Nat.beq x 302) (7181) 0)))) (cond (Nat.ble 226 x) (cond (Nat.ble 269 x) (cond (Nat.ble 276 x) (cond (Nat.ble 282 x) (cond (Nat.beq x 282) (6029) 0) (cond (Nat.beq x 276) (5142) 0)) (cond (Nat.beq x 269) (6024) 0)) (cond (Nat.ble 236 x) (cond (Nat.ble 261 x) (cond (Nat.beq x 261) (4172) 0) (cond (Nat.beq x 236) (4198) 0)) (cond (Nat.beq x 226) (4215) 0))) (cond (Nat.ble 154 x) (cond (Nat.ble 212 x) (cond (Nat.ble 221 x) (cond (Nat.beq x 221) (6016) 0) (cond (Nat.beq x 212) (5189) 0)) (cond (Nat.beq x 154) (5086) 0)) (cond (Nat.ble 122 x) (cond (Nat.beq x 122) (5049) 0) (cond (Nat.beq x 99) (7223) 0)))))
def plSt_15 (x : Nat) : Nat := (cond (Nat.beq x 337) (7081) 0)
def plSt (k x : Nat) : Nat := (cond (Nat.ble 1 k) (cond (Nat.ble 15 k) (cond (Nat.beq k 15) (plSt_15 x) 0) (cond (Nat.beq k 1) (plSt_1 x) 0)) (cond (Nat.beq k 0) (plSt_0 x) 0))
def roMark (S0 : State) (ci a : Nat) : Option Value := match S0.heap[a]? with
  | some cel => if cel.vm.isStatics = false ∧ S0.vm.findClass (roC ci) = some cel.cls then some (.int 0) else none
  | none => none
def G0 (S0 : State) : Glb := fun k x => cond (Nat.blt k 100) ((gsT k x).bind fun q => (Term.static q.1 q.2.1 q.2.2).eval #[] S0 none [] S0)
  (cond (Nat.blt k 200) ((strT (k - 100) x).bind fun _ => (Term.string (ownT (k - 100)) x).eval #[] S0 none [] S0)
    (cond (Nat.blt k 2000) none (cond (Nat.beq (k % 10) 9) (roMark S0 ((k - 1000) / 10) x) (S0.fieldOf? x (roF ((k - 1000) / 10) (k % 10)).1 (roF ((k - 1000) / 10) (k % 10)).2.1 (roF ((k - 1000) / 10) (k % 10)).2.2))))
theorem blt_f {a b : Nat} (h : b ≤ a) : Nat.blt a b = false := by
  cases h9 : Nat.blt a b with
  | false => rfl
  | true => have : a < b := Nat.le_of_ble_eq_true h9; omega
theorem blt_t {a b : Nat} (h : a < b) : Nat.blt a b = true := Nat.ble_eq_true_of_le h
theorem G0_ro {S0 : State} {ci f a : Nat} (h : 100 ≤ ci) (hf : f < 9) : G0 S0 (roK ci f) a = S0.fieldOf? a (roF ci f).1 (roF ci f).2.1 (roF ci f).2.2 := by
  unfold G0 roK
  rw [blt_f (by omega), blt_f (by omega), blt_f (by omega)]
  have e1 : (1000 + (10 * ci + f)) % 10 = f := by omega
  have e2 : (1000 + (10 * ci + f) - 1000) / 10 = ci := by omega
  have e3 : Nat.beq f 9 = false := by
    cases h9 : Nat.beq f 9 with
    | false => rfl
    | true => have := Nat.eq_of_beq_eq_true h9; omega
  rw [e1, e2, e3]
  rfl
theorem G0_mk {S0 : State} {ci a : Nat} (h : 100 ≤ ci) : G0 S0 (roK ci 9) a = roMark S0 ci a := by
  unfold G0 roK
  rw [blt_f (by omega), blt_f (by omega), blt_f (by omega)]
  have e1 : (1000 + (10 * ci + 9)) % 10 = 9 := by omega
  have e2 : (1000 + (10 * ci + 9) - 1000) / 10 = ci := by omega
  rw [e1, e2]
  rfl
theorem free_no {S0 : State} : ∀ a : Nat, a < S0.heap.size → ¬ freeB S0 a := fun a ha h => absurd ha (Nat.not_lt.mpr h)
theorem RoOK0 (S0 : State) : RoOK S0 (G0 S0) := by
  intro ci a h100
  refine ⟨fun f v hf hv => ?_, fun v hv => ?_⟩
  · rw [G0_ro h100 hf] at hv
    have ht : (Term.arg 0).eval #[Value.ref a] S0 none [] S0 = some (.ref a) := rfl
    exact vk_OFof ht (by rw [va_fe ht]; exact hv) free_no
  · rw [G0_mk h100] at hv
    unfold roMark at hv
    split at hv
    · rename_i cell hc
      split at hv
      · rename_i h9
        exact ⟨cell, hc, h9.1, h9.2⟩
      · cases hv
    · cases hv
def chkG (k x : Nat) : Bool := match gsT k x with
  | none => true
  | some (C, n, d) => atB (plG k x) (Cond.fieldLink (ownT k) x C n d) && (atN (plGl k x) (Cond.laysStatic C n d) && atN (plGi k x) (Cond.initialized C))
theorem chkG_all : allB 18 (fun k => allB 1100 fun x => chkG k x) = true := by decide +kernel
def chkS (k x : Nat) : Bool := match strT k x with
  | none => true
  | some tx => atN (plSt k x) (Cond.stringRef (ownT k) x tx)
theorem chkS_all : allB 18 (fun k => allB 1100 fun x => chkS k x) = true := by decide +kernel
theorem str_ref {S0 : State} {C : String} {x : Nat} {v : Value} (h : (Term.string C x).eval #[] S0 none [] S0 = some v) : ∃ a, v = .ref a := by
  simp only [Term.eval, Option.bind_eq_bind, Option.bind_eq_some_iff] at h
  obtain ⟨c, -, k, -, a, -, h⟩ := h
  split at h
  · cases h; exact ⟨_, rfl⟩
  · cases h
/-- the tables' words hold at S0 -/
def WordsAt (S0 : State) (args : Array Value) : Prop := ∀ w ∈ lw_xtra ++ lw_tbl, w.before args S0 = true
theorem StOK0 {S0 : State} {args : Array Value} (hts : WordsAt S0 args) : StOK S0 (G0 S0) := by
  refine ⟨fun k x v hk hv => ?_, fun k x v hk hv => ?_⟩
  · unfold G0 at hv
    rw [blt_t hk] at hv
    simp only [cond_true] at hv
    obtain ⟨q, hq, hv⟩ := Option.bind_eq_some_iff.mp hv
    have hq' := hq
    unfold gsT at hq'
    obtain ⟨h1, h2⟩ := tab2_lt hq'
    have hc := allB_ok (allB_ok chkG_all k h1) x h2
    unfold chkG at hc
    rw [hq] at hc
    simp only [Bool.and_eq_true] at hc
    obtain ⟨C, n, d⟩ := q
    have e : (Term.static C n d).eval args S0 none [] S0 = some v := hv
    exact ⟨C, n, d, atB_ok hc.1, va_Zof (hts _ (atN_ok hc.2.1)) (hts _ (atN_ok hc.2.2)) e free_no⟩
  · unfold G0 at hv
    rw [blt_f (by omega), blt_t (show k + 100 < 200 by omega), show k + 100 - 100 = k by omega] at hv
    simp only [cond_true, cond_false] at hv
    obtain ⟨tx, hq, hv⟩ := Option.bind_eq_some_iff.mp hv
    have hq' := hq
    unfold strT at hq'
    obtain ⟨h1, h2⟩ := tab2_lt hq'
    have hc := allB_ok (allB_ok chkS_all k h1) x h2
    unfold chkS at hc
    rw [hq] at hc
    obtain ⟨a, rfl⟩ := str_ref hv
    exact ⟨tx, a, rfl, vk_R.of (hts _ (atN_ok hc)) hv⟩
theorem NwOK0 {S0 : State} {args : Array Value} (hts : WordsAt S0 args) : NwOK S0 := fun a i x h hw => va_Nw.of rfl (hts _ hw)
