/-! THE LAW'S ENTRY, part 2: the walk. -/
theorem ad_x0 (A : Nat) : ad A 11 0 = A := by unfold ad pos; simp
theorem sc_of {s : State} {b L : Nat} {xs : Nat → Int32} (hL : L ≤ 2560) (h : va_X b L xs s s.heap) (hb : b < s.heap.size) : SC s.heap.size (hRO s) b L xs := by
  obtain ⟨scr, h1, h2, h3, h4, h5⟩ := h
  refine ⟨hb, hL, false, hRO_of ⟨hb, scr, h1, h2, h3, ?_⟩⟩
  apply List.ext_getElem?
  intro j
  by_cases hj : j < L
  · rw [Array.getElem?_toList, h5 j hj]; simp [hj]
  · rw [Array.getElem?_toList, Array.getElem?_eq_none (by omega), List.getElem?_eq_none (by rw [List.length_map, List.length_range]; omega)]
theorem law_all {s : State} {b L : Nat} {xs : Nat → Int32} {fl kd : Nat → Nat} (E : ENV (G0 s) s.heap.size (hRO s) fl kd) (hC : SC s.heap.size (hRO s) b L xs) : ∃ σ' : St, run (G0 s) 41 0 0 (entry 9 [.ref b]) [] (hRO s, s.heap.size, 0) = some (.inl (some (.int 1)), σ') ∧ σ'.2.1 ≤ s.heap.size + 3000 ∧ σ'.2.2 ≤ 50000 := by
  obtain ⟨σ', e1, e2, e3⟩ := loop E hC L 0 m0 (m0 12) (m0 12 1) (H1 s.heap.size (hRO s)) (s.heap.size + 179) (0 + 2995) none none none (by omega) (by omega) (LJ_0 _ _ _ (by omega))
  have hn := new0 (G := G0 s) (A := s.heap.size) (r := 0) (H0 := hRO s) 38 b E.2.2.1
  rw [ad_x0] at e1
  exact ⟨σ', Eq.trans hn e1, e2, e3⟩
/-- **the law, from its entry to its end** -/
theorem whole_start {p : Program} {e : Env} {s : State} {m : MethodId} {below : List Frame} {meth : Method} {c : Code} (l : Launch) (hflags : l.flags = flags0) {b L : Nat} {xs : Nat → Int32} (hL : L ≤ 2560) (C0 : lw_At p s m meth c b L xs) : W p l e room_1 s m #[Value.ref b] below meth c s.heap [] 0 0 (lw_Z below #[Value.ref b] s) (entryFrame m ([Value.ref b] : List Value).toArray 9) := by
  obtain ⟨c1, c2, c3, c4, c5, c6, c7, c8, c9, c10⟩ := id C0
  obtain ⟨fl, kd, E⟩ := env_of (S0 := s) (args := #[Value.ref b]) c10
  obtain ⟨σ', e1, e2, e3⟩ := law_all E (sc_of hL c7 c8)
  exact law_run tabOK tabOK2 l hflags C0 (d := 41) (by omega) e1 (by omega) (by omega)
