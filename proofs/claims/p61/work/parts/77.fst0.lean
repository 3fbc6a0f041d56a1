/-! THE FIRST STATE. -/
theorem CP_0 (B : Bd) (s : Nat → Int32) (h1 : ∀ i, B 1 i = 0) (h0 : ∀ i, B 0 i = 0) (h9 : ∀ i, B 9 i = 0) (hs : ∀ i, s i = 0) : CP B s 0 0 id := by
  refine ⟨⟨⟨h1 0, Nat.zero_le _, h9 0, Nat.zero_le _, fun i hi => absurd hi (Nat.not_lt_zero i)⟩, ⟨⟨0, by omega, h1 1, fun i hi => absurd hi (Nat.not_lt_zero i)⟩, fun i j _ hj => absurd hj (Nat.not_lt_zero j), fun i hi => absurd hi (Nat.not_lt_zero i)⟩, fun q hq => absurd hq (Nat.not_lt_zero q), fun i j hi => absurd hi (Nat.not_lt_zero i), fun i hi => absurd hi (Nat.not_lt_zero i)⟩, ⟨fun i hi => absurd hi (Nat.not_lt_zero i), fun i j hi => absurd hi (Nat.not_lt_zero i)⟩, ⟨by rw [hs, h1], by rw [hs, h0], hs 2⟩, fun i hi => absurd hi (Nat.not_lt_zero i), fun a _ _ w _ => ?_, fun q hq => absurd hq (Nat.not_lt_zero q)⟩
  unfold sl; exact hs _
def H1 (A : Nat) (H0 : Hp) : Hp := HL A H0 (fullC A)
theorem H1_at {A : Nat} {H0 : Hp} {q k : Nat} {c : Cel} (hq : q = A + k) (hk : k < 169) (h : (fullC A)[k]? = some c) : H1 A H0 q = some c := by
  subst hq
  unfold H1 HL
  rw [if_pos ⟨by omega, by rw [fullC_len]; omega⟩, show A + k - A = k by omega]
  exact h
theorem H1_kp (A : Nat) (H0 : Hp) : KP A W0 H0 (H1 A H0) := by
  intro q hq
  rcases hq with h | h
  · unfold H1 HL; rw [if_neg (by omega)]
  · exact absurd h (fun z => z)
theorem JT_0 (Bt : Nat → Bd) : JT m0 0 0 Bt := by
  have hz : ∀ b, b < 11 → ∀ c i, m0 b c i = 0 := fun b hb c i => m0_z (by omega) i
  have h1 : ∀ v, v < 8 → m0 11 1 v = nI (3 + v) := fun v _ => by unfold m0; rw [if_pos ⟨rfl, rfl⟩]
  refine ⟨⟨fun _ => 0, 0, 0, id, CP_0 _ _ (hz 0 (by omega) 1) (hz 0 (by omega) 0) (hz 0 (by omega) 9) (fun _ => rfl), ⟨0, Nat.le_refl _, hz 0 (by omega) 1 1⟩, fun i hi => absurd hi (Nat.not_lt_zero i)⟩, ⟨0, Nat.zero_le _, Nat.le_refl _, by decide, fun v hv => ⟨3 + v, by omega, by omega, h1 v hv⟩, fun i j hi hj he => ?_, fun v hv => absurd hv (Nat.not_lt_zero v)⟩, ⟨by decide, Nat.zero_le _, ⟨0, Nat.zero_le _, by decide⟩, ⟨0, Nat.zero_le _, by decide⟩⟩⟩
  rw [h1 i hi, h1 j hj] at he
  have := nI_inj (by omega) (by omega) he
  omega
theorem SB_0 (A : Nat) (H0 : Hp) : SB A W0 (ad A 11 9) (H1 A H0) 16 [] (A + 169) := by
  refine ⟨ad A 11 10, 0, fun _ => 0, ?_, ?_, ⟨Or.inl rfl, Or.inr (Or.inl rfl), ?_, fun q h => absurd h (fun z => z)⟩, Nat.zero_le _, fun i hi => absurd hi (Nat.not_lt_zero i), Nat.le_refl _, by omega, by omega⟩
  · refine H1_at (k := 51) (ad_9 A) (by omega) ?_
    rw [ad_10]
    rfl
  · refine H1_at (k := 52) (ad_10 A) (by omega) ?_
    refine Eq.trans ?_ (congrArg some (ar_zero (fun _ => rfl) (by decide)).symm); rfl
  · rw [ad_9, ad_10]; omega
theorem ad_x0 (A : Nat) : ad A 11 0 = A := by unfold ad pos; simp
/-- the board is made -/
theorem new1 {G : Glb} {A r : Nat} {H0 : Hp} (d : Nat) (hk : G 8 18 = some (.int 1)) : cV (call G (d + 2) 44 [.ref A] (wall (H0, A, r) (.inr (5, [.null, .null, .null, .null, .int 0, .int 0, .null, .null, .null, .int 0, .int 0])) 11)) = fun K => K (S A (H1 A H0) m0 (A + 169) (r + 1503)) := by
  funext K
  rw [← LSt_nil A H0 r, LSt_wall]
  show (cV (call G (d + 2) 44 [.ref A] (LSt A H0 [.inr (5, [.null, .null, .null, .null, .int 0, .int 0, .null, .null, .null, .int 0, .int 0])] (r + 11))) K) = _
  rw [s44 d hk]
  show K (LSt A H0 (fullC A) (r + 11 + 1492)) = _
  rw [LSt_S (m := m0) (by rw [fullC_len]; omega) (fun k hk2 c hc => pic0 A k hk2 c hc), fullC_len]
  rfl
