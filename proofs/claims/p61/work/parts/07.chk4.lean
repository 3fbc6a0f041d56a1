/-! CHECKS of the tables, part 5 (printed by wip/whole/gen_chk3.py) -/
def plKc_0 (x : Nat) : Nat := (cond (Nat.beq x 7) (3043) 0)
def plKc_8 (x : Nat) : Nat := (cond (Nat.beq x 39) (6162) 0)
def plKc_10 (x : Nat) : Nat := (cond (Nat.ble 266 x) (cond (Nat.ble 267 x) (cond (Nat.beq x 267) (4106) 0) (cond (Nat.beq x 266) (4105) 0)) (cond (Nat.beq x 265) (4104) 0))
def plKc_16 (x : Nat) : Nat := (cond (Nat.beq x 200) (6158) 0)
def plKc (k x : Nat) : Nat := (cond (Nat.ble 10 k) (cond (Nat.ble 16 k) (cond (Nat.beq k 16) (plKc_16 x) 0) (cond (Nat.beq k 10) (plKc_10 x) 0)) (cond (Nat.ble 8 k) (cond (Nat.beq k 8) (plKc_8 x) 0) (cond (Nat.beq k 0) (plKc_0 x) 0)))
def chkK (k x : Nat) : Bool := match kcT k x with
  | none => true
  | some v => atB (plKc k x) (Cond.constant (ownT k) x v)
theorem chkK_all : allB 18 (fun k => allB 1100 fun x => chkK k x) = true := by decide +kernel
theorem tab_K : ∀ k x v, kcT k x = some v → Cond.constant (ownT k) x v ∈ TBg := by
  intro k x v h
  obtain ⟨hk, hx⟩ := tab2_lt h
  have hc := allB_ok (allB_ok chkK_all k hk) x hx
  unfold chkK at hc
  rw [h] at hc
  exact atB_ok hc
def plJc_0 (x : Nat) : Nat := (cond (Nat.ble 392 x) (cond (Nat.ble 396 x) (cond (Nat.ble 398 x) (cond (Nat.beq x 398) (7214) 0) (cond (Nat.beq x 396) (7213) 0)) (cond (Nat.ble 394 x) (cond (Nat.beq x 394) (7212) 0) (cond (Nat.beq x 392) (7211) 0))) (cond (Nat.ble 388 x) (cond (Nat.ble 390 x) (cond (Nat.beq x 390) (7210) 0) (cond (Nat.beq x 388) (7209) 0)) (cond (Nat.beq x 383) (7204) 0)))
def plJc (k x : Nat) : Nat := (cond (Nat.beq k 0) (plJc_0 x) 0)
def plCk_15 (x : Nat) : Nat := (cond (Nat.beq x 311) (6172) 0)
def plCk (k x : Nat) : Nat := (cond (Nat.beq k 15) (plCk_15 x) 0)
def chkJc (k x : Nat) : Bool := match jcT k x with
  | none => true
  | some v => atB (plJc k x) (Cond.constantLong (ownT k) x v)
theorem chkJc_all : allB 18 (fun k => allB 1100 fun x => chkJc k x) = true := by decide +kernel
theorem tab_Jc : ∀ k x v, jcT k x = some v → Cond.constantLong (ownT k) x v ∈ TBg := by
  intro k x v h
  obtain ⟨hk, hx⟩ := tab2_lt h
  have hc := allB_ok (allB_ok chkJc_all k hk) x hx
  unfold chkJc at hc
  rw [h] at hc
  exact atB_ok hc
def chkCk (k x : Nat) : Bool := match ckT k x with
  | none => true
  | some _ => atB (plCk k x) (Cond.classLink (ownT k) x "[B")
theorem chkCk_all : allB 18 (fun k => allB 1100 fun x => chkCk k x) = true := by decide +kernel
theorem tab_Ck : ∀ k x v, ckT k x = some v → Cond.classLink (ownT k) x "[B" ∈ TBg := by
  intro k x v h
  obtain ⟨hk, hx⟩ := tab2_lt h
  have hc := allB_ok (allB_ok chkCk_all k hk) x hx
  unfold chkCk at hc
  rw [h] at hc
  exact atB_ok hc
def chkF6 (k x : Nat) : Bool := match rfT k x with
  | none => true
  | some (ci, f, _) => !(Nat.beq ci 6) || Nat.blt f 2
theorem chkF6_all : allB 18 (fun k => allB 1100 fun x => chkF6 k x) = true := by decide +kernel
theorem tab_F6 : ∀ k x f ty, rfT k x = some (6, f, ty) → f < 2 := by
  intro k x f ty h
  obtain ⟨hk, hx⟩ := tab2_lt h
  have hc := allB_ok (allB_ok chkF6_all k hk) x hx
  unfold chkF6 at hc
  rw [h] at hc
  simp only [show Nat.beq 6 6 = true from rfl, Bool.not_true, Bool.false_or] at hc
  exact Nat.le_of_ble_eq_true hc
def plCl_0 (x : Nat) : Nat := (cond (Nat.ble 342 x) (cond (Nat.beq x 342) (6137) 0) (cond (Nat.beq x 9) (2036) 0))
def plCl_1 (x : Nat) : Nat := (cond (Nat.ble 41 x) (cond (Nat.ble 48 x) (cond (Nat.beq x 48) (2211) 0) (cond (Nat.beq x 41) (2178) 0)) (cond (Nat.ble 34 x) (cond (Nat.beq x 34) (2152) 0) (cond (Nat.beq x 7) (2044) 0)))
def plCl_3 (x : Nat) : Nat := (cond (Nat.ble 18 x) (cond (Nat.beq x 18) (2103) 0) (cond (Nat.beq x 9) (2050) 0))
def plCl_13 (x : Nat) : Nat := (cond (Nat.beq x 18) (7046) 0)
def plCl_15 (x : Nat) : Nat := (cond (Nat.beq x 45) (7078) 0)
def plCl (k x : Nat) : Nat := (cond (Nat.ble 3 k) (cond (Nat.ble 13 k) (cond (Nat.ble 15 k) (cond (Nat.beq k 15) (plCl_15 x) 0) (cond (Nat.beq k 13) (plCl_13 x) 0)) (cond (Nat.beq k 3) (plCl_3 x) 0)) (cond (Nat.ble 1 k) (cond (Nat.beq k 1) (plCl_1 x) 0) (cond (Nat.beq k 0) (plCl_0 x) 0)))
def plIs (i : Nat) : Nat := (cond (Nat.ble 4 i) (cond (Nat.ble 6 i) (cond (Nat.ble 7 i) (cond (Nat.beq i 7) (2179) 0) (cond (Nat.beq i 6) (4126) 0)) (cond (Nat.ble 5 i) (cond (Nat.beq i 5) (2037) 0) (cond (Nat.beq i 4) (2104) 0))) (cond (Nat.ble 2 i) (cond (Nat.ble 3 i) (cond (Nat.beq i 3) (2153) 0) (cond (Nat.beq i 2) (2212) 0)) (cond (Nat.ble 1 i) (cond (Nat.beq i 1) (2045) 0) (cond (Nat.beq i 0) (2051) 0))))
def plIn (i : Nat) : Nat := (cond (Nat.ble 4 i) (cond (Nat.ble 6 i) (cond (Nat.ble 7 i) (cond (Nat.beq i 7) (2007) 0) (cond (Nat.beq i 6) (2008) 0)) (cond (Nat.ble 5 i) (cond (Nat.beq i 5) (2001) 0) (cond (Nat.beq i 4) (2004) 0))) (cond (Nat.ble 2 i) (cond (Nat.ble 3 i) (cond (Nat.beq i 3) (2005) 0) (cond (Nat.beq i 2) (2010) 0)) (cond (Nat.ble 1 i) (cond (Nat.beq i 1) (2002) 0) (cond (Nat.beq i 0) (2003) 0))))
def chkN (k x : Nat) : Bool := match rcT k x with
  | none => true
  | some (ci, fs) => match clT[ci]? with
    | some r => decide (ci < 100) && (atB (plCl k x) (Cond.classLink (ownT k) x r.1) && (atB (plIs ci) (Cond.instantiable r.1 r.2.2) && (atB (plIn ci) (Cond.initialized r.1) && decide (fs = (List.range r.2.2).map fun j => defaultValue (tyT ci j)))))
    | none => false
theorem chkN_all : allB 18 (fun k => allB 1100 fun x => chkN k x) = true := by decide +kernel
theorem tab_N : ∀ k x ci fs, rcT k x = some (ci, fs) → NewOK k x ci fs := by
  intro k x ci fs h
  obtain ⟨hk, hx⟩ := tab2_lt h
  have hc := allB_ok (allB_ok chkN_all k hk) x hx
  unfold chkN at hc
  rw [h] at hc
  simp only at hc
  split at hc
  · rename_i r hr
    simp only [Bool.and_eq_true] at hc
    obtain ⟨a1, a2, a3, a4, a5⟩ := hc
    exact ⟨r, hr, of_decide_eq_true a1, atB_ok a2, atB_ok a3, atB_ok a4, of_decide_eq_true a5⟩
  · cases hc
def chkA (k x : Nat) : Bool := match raT k x with
  | none => true
  | some C => decide (C = "CloudInterviews$Board") && atB (plCl k x) (Cond.classLink (ownT k) x C)
theorem chkA_all : allB 18 (fun k => allB 1100 fun x => chkA k x) = true := by decide +kernel
theorem tab_A : ∀ k x C, raT k x = some C → C = "CloudInterviews$Board" ∧ Cond.classLink (ownT k) x C ∈ TBg := by
  intro k x C h
  obtain ⟨hk, hx⟩ := tab2_lt h
  have hc := allB_ok (allB_ok chkA_all k hk) x hx
  unfold chkA at hc
  rw [h] at hc
  simp only [Bool.and_eq_true] at hc
  exact ⟨of_decide_eq_true hc.1, atB_ok hc.2⟩
theorem tab_na : ∀ ty, naT ty = true → Cond.arrayClass (Op.newarray.typeOf ty) ∈ TBg := by
  intro ty h
  cases ty
  case int => exact atB_ok (pl := 2101) (by decide +kernel)
  case char => exact atB_ok (pl := 2102) (by decide +kernel)
  case boolean => exact atB_ok (pl := 2177) (by decide +kernel)
  case byte => exact atB_ok (pl := 2210) (by decide +kernel)
  case long => exact atB_ok (pl := 8131) (by decide +kernel)
  all_goals (cases h)
def plLay (ci k : Nat) : Nat := (cond (Nat.ble 4 ci) (cond (Nat.ble 6 ci) (cond (Nat.ble 7 ci) (cond (Nat.beq ci 7) ((cond (Nat.ble 2 k) (cond (Nat.ble 3 k) (cond (Nat.beq k 3) (2207) 0) (cond (Nat.beq k 2) (2205) 0)) (cond (Nat.ble 1 k) (cond (Nat.beq k 1) (2203) 0) (cond (Nat.beq k 0) (2201) 0)))) 0) (cond (Nat.beq ci 6) ((cond (Nat.ble 2 k) (cond (Nat.ble 3 k) (cond (Nat.beq k 3) (7099) 0) (cond (Nat.beq k 2) (7097) 0)) (cond (Nat.ble 1 k) (cond (Nat.beq k 1) (4129) 0) (cond (Nat.beq k 0) (4127) 0)))) 0)) (cond (Nat.ble 5 ci) (cond (Nat.beq ci 5) ((cond (Nat.ble 5 k) (cond (Nat.ble 8 k) (cond (Nat.ble 9 k) (cond (Nat.ble 10 k) (cond (Nat.beq k 10) (3037) 0) (cond (Nat.beq k 9) (3035) 0)) (cond (Nat.beq k 8) (3033) 0)) (cond (Nat.ble 6 k) (cond (Nat.ble 7 k) (cond (Nat.beq k 7) (3031) 0) (cond (Nat.beq k 6) (3029) 0)) (cond (Nat.beq k 5) (3027) 0))) (cond (Nat.ble 2 k) (cond (Nat.ble 3 k) (cond (Nat.ble 4 k) (cond (Nat.beq k 4) (3025) 0) (cond (Nat.beq k 3) (3023) 0)) (cond (Nat.beq k 2) (3021) 0)) (cond (Nat.ble 1 k) (cond (Nat.beq k 1) (3019) 0) (cond (Nat.beq k 0) (3017) 0))))) 0) (cond (Nat.beq ci 4) ((cond (Nat.ble 2 k) (cond (Nat.ble 3 k) (cond (Nat.ble 4 k) (cond (Nat.beq k 4) (2133) 0) (cond (Nat.beq k 3) (2131) 0)) (cond (Nat.beq k 2) (2129) 0)) (cond (Nat.ble 1 k) (cond (Nat.beq k 1) (2127) 0) (cond (Nat.beq k 0) (2125) 0)))) 0))) (cond (Nat.ble 2 ci) (cond (Nat.ble 3 ci) (cond (Nat.beq ci 3) ((cond (Nat.ble 3 k) (cond (Nat.ble 4 k) (cond (Nat.ble 5 k) (cond (Nat.beq k 5) (2174) 0) (cond (Nat.beq k 4) (2172) 0)) (cond (Nat.beq k 3) (2170) 0)) (cond (Nat.ble 1 k) (cond (Nat.ble 2 k) (cond (Nat.beq k 2) (2168) 0) (cond (Nat.beq k 1) (2166) 0)) (cond (Nat.beq k 0) (2164) 0)))) 0) (cond (Nat.beq ci 2) ((cond (Nat.ble 4 k) (cond (Nat.ble 6 k) (cond (Nat.ble 7 k) (cond (Nat.beq k 7) (3003) 0) (cond (Nat.beq k 6) (3001) 0)) (cond (Nat.ble 5 k) (cond (Nat.beq k 5) (2239) 0) (cond (Nat.beq k 4) (2237) 0))) (cond (Nat.ble 2 k) (cond (Nat.ble 3 k) (cond (Nat.beq k 3) (2235) 0) (cond (Nat.beq k 2) (2233) 0)) (cond (Nat.ble 1 k) (cond (Nat.beq k 1) (2231) 0) (cond (Nat.beq k 0) (2229) 0))))) 0)) (cond (Nat.ble 1 ci) (cond (Nat.beq ci 1) ((cond (Nat.ble 1 k) (cond (Nat.ble 2 k) (cond (Nat.beq k 2) (2148) 0) (cond (Nat.beq k 1) (2146) 0)) (cond (Nat.beq k 0) (2144) 0))) 0) (cond (Nat.beq ci 0) ((cond (Nat.ble 4 k) (cond (Nat.ble 6 k) (cond (Nat.ble 7 k) (cond (Nat.ble 8 k) (cond (Nat.beq k 8) (2098) 0) (cond (Nat.beq k 7) (2096) 0)) (cond (Nat.beq k 6) (2094) 0)) (cond (Nat.ble 5 k) (cond (Nat.beq k 5) (2092) 0) (cond (Nat.beq k 4) (2090) 0))) (cond (Nat.ble 2 k) (cond (Nat.ble 3 k) (cond (Nat.beq k 3) (2088) 0) (cond (Nat.beq k 2) (2086) 0)) (cond (Nat.ble 1 k) (cond (Nat.beq k 1) (2084) 0) (cond (Nat.beq k 0) (2082) 0))))) 0))))
noncomputable def chkC (ci : Nat) : Bool := match clT[ci]? with
  | none => true
  | some r => allB r.2.2 (fun k => atB (plLay ci k) (u_lay r.1 r.2.1 k) && (decide (parseFieldDescriptor (r.2.1 k).2.2.1 = some (tyT ci k)) && allB r.2.2 fun b => Nat.beq k b || decide ((r.2.1 k).2.1 ≠ (r.2.1 b).2.1)))
theorem chkC_all : allB 8 chkC = true := by decide +kernel
theorem tab_C : ClsOK := by
  intro ci r hr
  have hci : ci < 8 := (List.getElem?_eq_some_iff.mp hr).1
  have hc := allB_ok chkC_all ci hci
  unfold chkC at hc
  rw [hr] at hc
  simp only at hc
  have hk : ∀ k, k < r.2.2 → u_lay r.1 r.2.1 k ∈ TBg ∧ parseFieldDescriptor (r.2.1 k).2.2.1 = some (tyT ci k) ∧ ∀ b, b < r.2.2 → k ≠ b → (r.2.1 k).2.1 ≠ (r.2.1 b).2.1 := by
    intro k hk
    have h1 := allB_ok hc k hk
    simp only [Bool.and_eq_true] at h1
    refine ⟨atB_ok h1.1, of_decide_eq_true h1.2.1, fun b hb hne => ?_⟩
    have h2 := allB_ok h1.2.2 b hb
    simp only [Bool.or_eq_true] at h2
    rcases h2 with h2 | h2
    · exact absurd (Nat.eq_of_beq_eq_true h2) hne
    · exact of_decide_eq_true h2
  refine ⟨fun w hw => ?_, fun k h => (hk k h).2.1, fun a ha b hb hne => (hk a ha).2.2 b hb hne⟩
  obtain ⟨k, h1, h2⟩ := List.mem_map.mp hw
  rw [← h2]
  exact (hk k (List.mem_range.mp h1)).1
def anyAt (ps : List Nat) (w : Cond) : Bool := ps.any fun p => atB p w
theorem anyAt_ok {ps : List Nat} {w : Cond} (h : anyAt ps w = true) : w ∈ TBg := by
  obtain ⟨p, -, hp⟩ := List.any_eq_true.mp h
  exact atB_ok hp
theorem thr_0 : (exWs (97, "java/lang/IllegalArgumentException")).all (anyAt [2016, 2017, 2018, 2019, 2041, 2042, 2043, 2049, 2055, 2108, 2157, 2186, 2216, 3090, 3144, 3145, 3147, 3148, 3149, 3150, 3151, 3152, 3153, 3154, 3155, 3156, 3157, 3158, 3159, 3160, 3161, 3162, 3163, 3164, 3165, 3166, 3167, 3168, 3169, 3170, 3171, 3172, 3173, 3174, 3175, 3176, 3184, 3185, 3186, 3187, 3188, 3189, 3191, 3192, 3193, 3194, 3195, 3196, 3197, 3198, 3199, 3200, 3201, 3202, 3203, 3204, 3205, 3206, 3207, 3208, 3209, 3210, 3211, 3212, 3213, 3214, 3215, 3221, 3222, 3223, 3224, 3225, 3230, 3231, 3232, 3239, 4000, 4001, 4002, 4003, 4008, 4009, 4010, 4017, 4018, 4019, 4020, 4021, 4026, 4027, 4028, 4035, 4036, 4037, 4038, 4039, 4044, 4045, 4046, 4115, 4116, 4117, 4118, 4119, 4120, 5137, 5138, 5139, 5140, 5141, 5146, 5147, 5148, 7053, 7077, 7084, 7130, 7131, 7132, 7133, 7134, 7135, 8132]) = true := by decide +kernel
theorem thr_1 : (exWs (120, "java/lang/IndexOutOfBoundsException")).all (anyAt [2016, 2017, 2018, 2022, 2041, 2042, 2043, 2049, 2055, 2108, 2157, 2186, 2216, 3147, 3148, 3149, 3150, 3151, 3152, 3155, 3156, 3157, 3158, 3159, 3160, 3161, 3162, 3163, 3164, 3165, 3166, 3167, 3168, 3169, 3170, 3171, 3172, 3173, 3174, 3175, 3176, 3180, 3184, 3185, 3186, 3187, 3188, 3189, 3194, 3195, 3196, 3197, 3198, 3199, 3200, 3201, 3202, 3203, 3204, 3205, 3206, 3207, 3208, 3209, 3210, 3211, 3212, 3213, 3214, 3215, 3221, 3222, 3223, 3224, 3225, 3230, 3231, 3232, 3239, 4000, 4001, 4002, 4003, 4008, 4009, 4010, 4013, 4014, 4016, 4017, 4018, 4019, 4020, 4021, 4023, 4024, 4025, 4026, 4027, 4028, 4035, 4036, 4037, 4038, 4039, 4044, 4045, 4046, 4110, 4114, 4115, 4116, 4117, 4118, 4119, 4120, 4121, 4123, 4124, 5137, 5138, 5139, 5140, 5141, 5146, 5147, 5148, 7053, 7129, 7130, 7131, 7132, 7133, 7134, 7135, 7136, 8132]) = true := by decide +kernel
theorem thr_2 : (exWs (210, "java/util/NoSuchElementException")).all (anyAt [2016, 2017, 2018, 2021, 2041, 2042, 2043, 2049, 2055, 2108, 2157, 2186, 2216, 3147, 3148, 3149, 3150, 3151, 3152, 3155, 3156, 3157, 3158, 3159, 3160, 3161, 3162, 3163, 3164, 3165, 3166, 3167, 3168, 3169, 3170, 3171, 3172, 3173, 3174, 3175, 3176, 3183, 3184, 3185, 3186, 3187, 3188, 3189, 3194, 3195, 3196, 3197, 3198, 3199, 3200, 3201, 3202, 3203, 3204, 3205, 3206, 3207, 3208, 3209, 3210, 3211, 3212, 3213, 3214, 3215, 3221, 3222, 3223, 3224, 3225, 3230, 3231, 3232, 3235, 3236, 3238, 3239, 4000, 4001, 4002, 4003, 4005, 4006, 4007, 4008, 4009, 4010, 4017, 4018, 4019, 4020, 4021, 4026, 4027, 4028, 4035, 4036, 4037, 4038, 4039, 4044, 4045, 4046, 4073, 4115, 4116, 4117, 4118, 4119, 4120, 5137, 5138, 5139, 5140, 5141, 5146, 5147, 5148, 7053, 7130, 7131, 7132, 7133, 7134, 7135, 8132]) = true := by decide +kernel
theorem thr_3 : (exWs (234, "java/lang/IllegalStateException")).all (anyAt [2016, 2017, 2018, 2020, 2041, 2042, 2043, 2049, 2055, 2108, 2157, 2186, 2216, 3091, 3147, 3148, 3149, 3150, 3151, 3152, 3155, 3156, 3157, 3158, 3159, 3160, 3161, 3162, 3163, 3164, 3165, 3166, 3167, 3168, 3169, 3170, 3171, 3172, 3173, 3174, 3175, 3176, 3179, 3184, 3185, 3186, 3187, 3188, 3189, 3194, 3195, 3196, 3197, 3198, 3199, 3200, 3201, 3202, 3203, 3204, 3205, 3206, 3207, 3208, 3209, 3210, 3211, 3212, 3213, 3214, 3215, 3217, 3218, 3220, 3221, 3222, 3223, 3224, 3225, 3227, 3228, 3229, 3230, 3231, 3232, 3239, 4000, 4001, 4002, 4003, 4008, 4009, 4010, 4017, 4018, 4019, 4020, 4021, 4026, 4027, 4028, 4035, 4036, 4037, 4038, 4039, 4044, 4045, 4046, 4115, 4116, 4117, 4118, 4119, 4120, 5137, 5138, 5139, 5140, 5141, 5146, 5147, 5148, 7053, 7130, 7131, 7132, 7133, 7134, 7135, 8132]) = true := by decide +kernel
theorem thr_4 : (exWs (274, "java/lang/ArithmeticException")).all (anyAt [2016, 2017, 2018, 2029, 2041, 2042, 2043, 2049, 2055, 2108, 2157, 2186, 2216, 3147, 3148, 3149, 3150, 3151, 3152, 3155, 3156, 3157, 3158, 3159, 3160, 3161, 3162, 3163, 3164, 3165, 3166, 3167, 3168, 3169, 3170, 3171, 3172, 3173, 3174, 3175, 3176, 3177, 3184, 3185, 3186, 3187, 3188, 3189, 3194, 3195, 3196, 3197, 3198, 3199, 3200, 3201, 3202, 3203, 3204, 3205, 3206, 3207, 3208, 3209, 3210, 3211, 3212, 3213, 3214, 3215, 3221, 3222, 3223, 3224, 3225, 3230, 3231, 3232, 3239, 4000, 4001, 4002, 4003, 4008, 4009, 4010, 4017, 4018, 4019, 4020, 4021, 4026, 4027, 4028, 4035, 4036, 4037, 4038, 4039, 4044, 4045, 4046, 4115, 4116, 4117, 4118, 4119, 4120, 5133, 5134, 5136, 5137, 5138, 5139, 5140, 5141, 5143, 5144, 5145, 5146, 5147, 5148, 7053, 7130, 7131, 7132, 7133, 7134, 7135, 8132]) = true := by decide +kernel
theorem thr_5 : (exWs (349, "java/lang/UnsupportedOperationException")).all (anyAt [2016, 2017, 2018, 2023, 2041, 2042, 2043, 2049, 2055, 2108, 2157, 2186, 2216, 3147, 3148, 3149, 3150, 3151, 3152, 3155, 3156, 3157, 3158, 3159, 3160, 3161, 3162, 3163, 3164, 3165, 3166, 3167, 3168, 3169, 3170, 3171, 3172, 3173, 3174, 3175, 3176, 3182, 3184, 3185, 3186, 3187, 3188, 3189, 3194, 3195, 3196, 3197, 3198, 3199, 3200, 3201, 3202, 3203, 3204, 3205, 3206, 3207, 3208, 3209, 3210, 3211, 3212, 3213, 3214, 3215, 3221, 3222, 3223, 3224, 3225, 3230, 3231, 3232, 3239, 4000, 4001, 4002, 4003, 4008, 4009, 4010, 4017, 4018, 4019, 4020, 4021, 4026, 4027, 4028, 4031, 4032, 4034, 4035, 4036, 4037, 4038, 4039, 4041, 4042, 4043, 4044, 4045, 4046, 4115, 4116, 4117, 4118, 4119, 4120, 4131, 5137, 5138, 5139, 5140, 5141, 5146, 5147, 5148, 7053, 7130, 7131, 7132, 7133, 7134, 7135, 8132]) = true := by decide +kernel
theorem tab_T : ThrWords := by
  intro q hq w hw
  simp only [exL, List.mem_cons, List.not_mem_nil, or_false] at hq
  rcases hq with rfl | rfl | rfl | rfl | rfl | rfl
  · exact anyAt_ok (List.all_eq_true.mp thr_0 w hw)
  · exact anyAt_ok (List.all_eq_true.mp thr_1 w hw)
  · exact anyAt_ok (List.all_eq_true.mp thr_2 w hw)
  · exact anyAt_ok (List.all_eq_true.mp thr_3 w hw)
  · exact anyAt_ok (List.all_eq_true.mp thr_4 w hw)
  · exact anyAt_ok (List.all_eq_true.mp thr_5 w hw)
