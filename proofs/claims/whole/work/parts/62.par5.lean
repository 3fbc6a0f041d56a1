/-! THE LAW'S LOOP, part 7: what is written. -/
section
variable {G : Glb} {A n r t : Nat} {H H0 : Hp} {mm : Mm} {D : Bd} {s : Nat → Int32}
theorem LJ_o (hL : LJ A H0 mm D s H n r t) {tx : List Int32} {cap cap' n' r' : Nat} {H' : Hp} (hn0 : n ≤ A + 179 + cap + 2 * t) (hr0 : r ≤ 3000 + 2 * cap + 70 * t) (ha : ASC tx) (hl : tx.length ≤ 60) (hE : HE A H H') (hx : LX A H') (hs : SB A H' cap' tx n') (hgr : GR n r cap n' r' cap') : LJ A H0 (sb mm 12 (us (wrL (ud (ud D 0 6 0) 0 8 0) 0 tx) 1 s)) (wrL (ud (ud D 0 6 0) 0 8 0) 0 tx) s H' n' r' (t + 1) := by
  obtain ⟨h12, ⟨C, hC, hR, hU, hS⟩, ⟨L, z1, z2, z3⟩, ⟨hE1, hE2⟩, hO, hHE, hLX⟩ := id hL
  obtain ⟨w1, w2, w3, w4, w5⟩ := out_wr (D := D) ha
  obtain ⟨g1, g2, g3, g4, g5⟩ := hgr
  generalize wrL (ud (ud D 0 6 0) 0 8 0) 0 tx = D' at *
  have mo : ∀ Y b, b ≠ 12 → sb mm 12 Y b = mm b := fun Y b h => sb_ne h
  refine ⟨sb_eq .., ⟨C, by omega, by rw [mo _ 0 (by omega)]; exact hR, ?_, ?_⟩, ⟨L, ?_, by rw [w3 10 (by omega) (by omega)]; exact z2, fun i hi => ?_⟩, ⟨?_, ?_⟩, ⟨cap', tx, ⟨hs, hl, w1, w2⟩, by omega, by omega⟩, HE_trans hHE hE, hx⟩
  · exact LU_c hU (fun b h3 h11 => mo _ b (by omega)) (by rw [mo _ 11 (by omega)]) (fun i => by rw [mo _ 11 (by omega)]) (w3 5 (by omega) (by omega)) (w4 4 (by omega) (by omega))
  · exact LSv_c hS (mo _ 2 (by omega)) (by rw [mo _ 11 (by omega)]) (w3 3 (by omega) (by omega)) (w4 3 (by omega) (by omega))
  · rw [mo _ 11 (by omega)]; exact z1
  · rw [mo _ 11 (by omega), w4 6 (by omega) (by omega)]; exact z3 i hi
  · rw [mo _ 11 (by omega), w3 13 (by omega) (by omega)]; exact hE1
  · rw [mo _ 11 (by omega), w3 14 (by omega) (by omega)]; exact hE2
theorem P_36 (hgb : GB G) (hd : DG G H A) (ht : t < 600) (hL : LJ A H0 mm D s H n r t) (x : Int32) : PAIR G A H0 mm H n r t 36 283 [.int x] [.int x] oJ := by
  obtain ⟨k, p, g, C, u, cp, cb, hC, hn, hk, hp, hq, hv, h2, hu, hu8, hh, hDu, hid⟩ := LJ_get hL
  obtain ⟨_, _, _, _, ⟨cap, tx, ⟨o1, o2, o3, o4⟩, hn0, hr0⟩, _⟩ := id hL
  cases e : fx (mm 0) k x with
  | none => exact PQ_x hL not1 (w36_x1 rcX0 (s91n e hn hk _) (by decide +kernel)) (s283n (soM_n cp e) _)
  | some i =>
    have hi := (fx_k e).1
    obtain ⟨w, hw, ew⟩ := CP_wh cp hi
    obtain ⟨rr, hrr, er⟩ := CP_ra cp hi
    obtain ⟨V, hV, eV, _⟩ := CP_gv cp hi
    obtain ⟨c, hc, ec⟩ := cb.2 i hi
    have e8 : bcI (mm 0 8 i) = nI (pcn V) := by rw [eV]; exact bt_bcI V hV
    have hpc := pcn_le V
    have hsl := CP_sl cp hi
    obtain ⟨sh, hsh, es⟩ : ∃ sh, sh < 128 ∧ mm 0 3 i = nI sh := by
      rcases CP_sh cp hi with h | h | h <;> rw [h]
      · exact ⟨99, by omega, rfl⟩
      · exact ⟨115, by omega, rfl⟩
      · exact ⟨110, by omega, rfl⟩
    have hwa : waT (sl s (g i) 1) w rr (pcn V) c (fwM s p (g i)) = waT (nI sh) w rr (pcn V) c (if waB (mm 0) i = true then none else some (qB (mm 0) i)) := by rw [wa_eq cp hi, es]
    have hqb : ∀ q, (if waB (mm 0) i = true then none else some (qB (mm 0) i)) = some q → q < 10 := by
      intro q
      cases hwb : waB (mm 0) i with
      | true => intro h; cases h
      | false =>
        intro h
        have h' : some (qB (mm 0) i) = some q := h
        injection h' with h'
        have := (PV_q hv hi hq hwb).1
        omega
    have hl := wa_len (sh := nI sh) (w := w) (rr := rr) (g := pcn V) (c := c) hw hrr hpc (by omega) hqb
    have ha := ASC_wa (sh := sh) (w := w) (rr := rr) (g := pcn V) (c := c) hsh (by omega) (by omega) (by omega) (by omega) (fun q h => by have := hqb q h; omega)
    obtain ⟨H', n', r', cap', e1, e2, e3, e4⟩ := s91 (r := r) hgb hd o1 e hn hk hp hq hv (sh := sh) (w := w) (rr := rr) (g := pcn V) (c := c) (by rw [chr_sh (Or.inr (CP_sh cp hi))]; exact es) hsh ew er e8 ec (by omega) (by omega) (by omega) (by omega) (by omega) 33
    have m1 := s283 (G := G) (A := A) (n := n') (r := r') (H := hset H' (A + 177) (lC (nI (waT (nI sh) w rr (pcn V) c (if waB (mm 0) i = true then none else some (qB (mm 0) i))).length).toInt64)) (m := mm) (D := D) (soM_s cp e) h2 hq (hsl.2.2.1.trans ew) (hsl.2.2.2.1.trans er) ((Q_bt cp hi).trans e8) (hsl.2.2.2.2.1.trans ec) (by omega) (by omega) (by omega) (by omega) (by rw [hwa]; omega) 28
    rw [hwa, LJ_mm hL rfl] at m1
    generalize waT (nI sh) w rr (pcn V) c (if waB (mm 0) i = true then none else some (qB (mm 0) i)) = tx' at *
    have hxK := LX_KP (LJ_lx hL) e3
    have hEK := HE_KP e3
    refine ⟨0, nI tx'.length, mm, _, n', r', _, s, _, n', r', w36_v rcX0 e1 (lC_w hxK _), m1, (out_wr ha).2.2.2.2, fun _ => hset_at .., HE_trans hEK (HE_set (by omega)), HE_trans hEK (HE_set (by omega)), LJ_o hL hn0 hr0 ha (by omega) (HE_trans hEK (HE_set (by omega))) (LX_177 hxK _) (SB_q e2 (by omega) (Or.inl (by omega))) e4⟩
theorem A_47 (hgb : GB G) (hd : DG G H A) (ht : t < 600) (hL : LJ A H0 mm D s H n r t) : PAIA G A H0 mm H n r t 92 284 := by
  obtain ⟨k, p, g, C, u, cp, cb, hC, hn, hk, hp, hq, hv, h2, hu, hu8, hh, hDu, hid⟩ := LJ_get hL
  obtain ⟨_, _, _, _, ⟨cap, tx, ⟨o1, o2, o3, o4⟩, hn0, hr0⟩, _⟩ := id hL
  obtain ⟨ha, hl⟩ := cp_asc cp cb (by omega) p (Nat.le_refl p)
  have hwp := wp_eq cp p (Nat.le_refl p)
  have hid9 : ∀ i, i < k → ∃ v, v < 10 ^ 9 ∧ mm 0 2 i = nI v := fun i hi => by
    obtain ⟨v, hv, ev⟩ := id_C cp cb (by omega) hi
    exact ⟨v, by omega, ev⟩
  have hidM : ∀ i, i < k → ∃ v, v < 2 ^ 31 ∧ idM s (g i) = nI v := fun i hi => by
    obtain ⟨v, hv, ev⟩ := hid9 i hi
    exact ⟨v, by omega, (Q_id cp hi).trans ev⟩
  obtain ⟨H', n', r', cap', e1, e2, e3, e4⟩ := s92 (r := r) hgb hd o1 hn hk hp hq hid9 (by omega) 35
  have m1 := s284 (G := G) (A := A) (n := n') (r := r') (H := H') (m := mm) (D := D) h2 hq (Q_FV cp) (fun a ha => by
    rcases noS_or g k a with ⟨i, hi, rfl⟩ | hno
    · obtain ⟨v, hv, ev⟩ := hidM i hi
      exact ⟨v, Or.inl ⟨hv, ev⟩⟩
    · exact ⟨0, Or.inr (Q_un cp ha hno)⟩) (fun q hqp a ha e => by
    cases hf : fh (mm 0) k (nI q) with
    | none =>
      rw [poq_n cp hqp hf] at e
      have h3 : nI 0 = nI (a + 1) := e
      have := nI_inj (by omega) (by omega) h3; omega
    | some i =>
      rw [poq_s cp hqp hf] at e
      have hi := (fst_some hf).1
      have := IJ_lt (CP_g cp) hi
      have := nI_inj (by omega) (by omega) e
      rw [show a = g i by omega]
      exact hidM i hi) (by rw [hwp]; omega) 28
  rw [hwp, LJ_mm hL rfl] at m1
  generalize cpT (mm 0) k p = tx' at *
  exact ⟨nI tx'.length, mm, H', n', r', _, s, H', n', r', e1, m1, HE_KP e3, LJ_o hL hn0 hr0 ha (by omega) (HE_KP e3) (LX_KP (LJ_lx hL) e3) e2 e4⟩
end
