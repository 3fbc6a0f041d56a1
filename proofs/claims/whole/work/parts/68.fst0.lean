/-! THE LAW'S LOOP, part 13: the first state. -/
theorem CP_0 (B : Bd) (s : Nat → Int32) (h1 : ∀ i, B 1 i = 0) (h0 : ∀ i, B 0 i = 0) (h9 : ∀ i, B 9 i = 0) (hs : ∀ i, s i = 0) : CP B s 0 0 id := by
  refine ⟨⟨⟨h1 0, Nat.zero_le _, h9 0, Nat.zero_le _, fun i hi => absurd hi (Nat.not_lt_zero i)⟩, ⟨⟨0, by omega, h1 1, fun i hi => absurd hi (Nat.not_lt_zero i)⟩, fun i j _ hj => absurd hj (Nat.not_lt_zero j), fun i hi => absurd hi (Nat.not_lt_zero i)⟩, fun q hq => absurd hq (Nat.not_lt_zero q), fun i j hi => absurd hi (Nat.not_lt_zero i), fun i hi => absurd hi (Nat.not_lt_zero i)⟩, ⟨fun i hi => absurd hi (Nat.not_lt_zero i), fun i j hi => absurd hi (Nat.not_lt_zero i)⟩, ⟨by rw [hs, h1], by rw [hs, h0], hs 2⟩, fun i hi => absurd hi (Nat.not_lt_zero i), fun a _ _ w _ => ?_, fun q hq => absurd hq (Nat.not_lt_zero q)⟩
  unfold sl; exact hs _
theorem H1_at {A : Nat} {H0 : Hp} {q k : Nat} {c : Cel} (hq : q = A + k) (hk : k < 179) (h : (fullC A ++ [.inl (.long, true, List.replicate 1 (.long 0)), .inl (.double, true, List.replicate 1 (.double 0))])[k]? = some c) : H1 A H0 q = some c := by
  subst hq
  unfold H1 HL
  rw [if_pos ⟨by omega, by rw [List.length_append, fullC_len]; show A + k < A + (177 + 2); omega⟩, show A + k - A = k by omega]
  exact h
theorem LJ_0 (A : Nat) (H0 : Hp) (r : Nat) (hr : r ≤ 3000) : LJ A H0 m0 (m0 12) (m0 12 1) (H1 A H0) (A + 179) r 0 := by
  have hz : ∀ b, b < 11 → ∀ c i, m0 b c i = 0 := fun b hb c i => m0_z (by omega) i
  have hs : ∀ i, m0 12 1 i = 0 := fun i => m0_z (by omega) i
  have h1 : ∀ v, v < 8 → m0 11 1 v = nI (3 + v) := fun v _ => by unfold m0; rw [if_pos ⟨rfl, rfl⟩]
  refine ⟨(us_self _ _).symm, ⟨0, Nat.zero_le _, ⟨0, 0, id, CP_0 _ _ (hz 0 (by omega) 1) (hz 0 (by omega) 0) (hz 0 (by omega) 9) hs, ⟨0, Nat.le_refl _, hz 0 (by omega) 1 1⟩, fun i hi => absurd hi (Nat.not_lt_zero i)⟩, ⟨0, Nat.zero_le _, by decide, by decide, fun v hv => ⟨3 + v, by omega, by omega, h1 v hv⟩, fun i j hi hj he => ?_, fun v hv => absurd hv (Nat.not_lt_zero v)⟩, Or.inl ⟨by decide, by decide⟩⟩, ⟨0, ⟨by decide, Nat.zero_le _, ⟨0, Nat.zero_le _, by decide⟩, ⟨0, Nat.zero_le _, by decide⟩⟩, by decide, fun i hi => absurd hi (Nat.not_lt_zero i)⟩, ⟨Or.inl ⟨by decide, by decide⟩, Or.inl ⟨by decide, by decide⟩⟩, ⟨16, [], ⟨⟨ad A 11 10, 0, fun _ => 0, ?_, ?_, Or.inl rfl, Nat.zero_le _, fun i hi => absurd hi (Nat.not_lt_zero i), Nat.le_refl _, by omega, by omega⟩, Nat.zero_le _, by decide, fun i hi => absurd hi (Nat.not_lt_zero i)⟩, by omega, by omega⟩, fun q hq => ?_, ⟨0, ?_⟩, 0, ?_⟩
  · rw [h1 i hi, h1 j hj] at he
    have := nI_inj (by omega) (by omega) he
    omega
  · refine H1_at (k := 51) (ad_9 A) (by omega) ?_
    rw [ad_10]
    rfl
  · refine H1_at (k := 52) (ad_10 A) (by omega) ?_
    refine Eq.trans ?_ (congrArg some (ar_zero (fun _ => rfl) (by decide)).symm); rfl
  · unfold H1 HL
    rw [if_neg (by omega)]
  · refine H1_at (k := 177) rfl (by omega) ?_
    rw [List.getElem?_append_right (by rw [fullC_len]; omega), fullC_len]; rfl
  · refine H1_at (k := 178) rfl (by omega) ?_
    rw [List.getElem?_append_right (by rw [fullC_len]; omega), fullC_len]; rfl
