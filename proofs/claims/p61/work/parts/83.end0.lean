/-! THE LAW'S ENTRY: from its start to its end. -/
theorem sc_of {s : State} {b L : Nat} {xs : Nat → Int32} (hL : L ≤ 260) (h : va_X b L xs s s.heap) (hb : b < s.heap.size) : SC s.heap.size (hRO s) b L xs := by
  obtain ⟨scr, h1, h2, h3, h4, h5⟩ := h
  refine ⟨hb, by omega, false, hRO_of ⟨hb, scr, h1, h2, h3, ?_⟩⟩
  apply List.ext_getElem?
  intro j
  by_cases hj : j < L
  · rw [Array.getElem?_toList, h5 j hj]; simp [hj]
  · rw [Array.getElem?_toList, Array.getElem?_eq_none (by omega), List.getElem?_eq_none (by rw [List.length_map, List.length_range]; omega)]
/-- **the law, from its entry to its end** -/
theorem whole_start {p : Program} {e : Env} {s : State} {m : MethodId} {below : List Frame} {meth : Method} {c : Code} (l : Launch) (hflags : l.flags = flags0) {b L : Nat} {xs : Nat → Int32} (hL : L ≤ 260) (C0 : lw_At p s m meth c b L xs) : W p l e room_1 s m #[Value.ref b] below meth c s.heap [] 0 0 (lw_Z below #[Value.ref b] s) (entryFrame m ([Value.ref b] : List Value).toArray 2) := by
  obtain ⟨c1, c2, c3, c4, c5, c6, c7, c8, c9, c10⟩ := id C0
  obtain ⟨fl, kd, ⟨hg, hgs, hgb⟩, ⟨hKN, hSW⟩, hDG, hT⟩ := env_of (S0 := s) (args := #[Value.ref b]) c10
  have hgn : ∀ a, s.heap.size ≤ a → G0 s 2009 a = none := by
    intro a ha
    show G0 s (roK 100 9) a = none
    rw [G0_mk (by omega)]
    unfold roMark
    rw [Array.getElem?_eq_none (by omega)]
  obtain ⟨σ', e1, e2, e3⟩ := law_1 (G := G0 s) (A := s.heap.size) (H0 := hRO s) hgb hgs hg hgn hKN hSW hDG hT (sc_of hL c7 c8)
  exact law_run tabOK tabOK2 l hflags C0 (d := 41) (by omega) e1 (by omega) (by omega)
