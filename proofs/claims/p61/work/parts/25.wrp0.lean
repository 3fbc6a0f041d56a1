/-! THE LAW'S WRAPPERS (printed by wip/p61/gen_wrp.py): a call of the class whose exceptions are caught. -/
noncomputable def hb (G : Glb) (d i pc : Nat) (r : Res) (ty : Option FieldType) (nul : Bool) (ls : Lo) (rest : List Value) (K : List Value → St → Res) : Res := r.bind fun r' => match r'.1 with
  | .inl v => (pushR ty nul v rest).bind fun st' => K st' r'.2
  | .inr e => match hnd i pc e with
    | some h => run G d i h.1 (ls.set h.2 none) [] r'.2
    | none => some r'
noncomputable def blkH (G : Glb) (d i : Nat) (stop : Nat → Bool) : Nat → Nat → Lo → List Value → St → Res
  | 0, pc, ls, st, σ => run G d i pc ls st σ
  | N + 1, pc, ls, st, σ => match insT i pc with
    | none => none
    | some q => sem G i q.1 q.2 pc ls st σ fun nx => match nx with
      | .inl (pc', ls', st', σ') => cond (stop pc') (run G d i pc' ls' st' σ') (blkH G d i stop N pc' ls' st' σ')
      | .inr (.inl r) => some r
      | .inr (.inr (j, as, pc', ls', rest, σ')) => match d with
        | 0 => none
        | d' + 1 => hb G (d' + 1) i pc (call G d' j as σ') (retT j) (nulT j) ls' rest fun st' σ'' => cond (stop pc') (run G (d' + 1) i pc' ls' st' σ'') (blkH G (d' + 1) i stop N pc' ls' st' σ'')
theorem blkH_eq (G : Glb) (i : Nat) (stop : Nat → Bool) : ∀ (N d pc : Nat) (ls : Lo) (st : List Value) (σ : St), run G d i pc ls st σ = blkH G d i stop N pc ls st σ := by
  intro N
  induction N with
  | zero => intros; rfl
  | succ N ih =>
    intro d pc ls st σ
    rw [run_eq, blkH]
    cases insT i pc with
    | none => rfl
    | some q =>
      show sem G i q.1 q.2 pc ls st σ _ = sem G i q.1 q.2 pc ls st σ _
      congr 1
      funext nx
      rcases nx with ⟨pc', ls', st', σ'⟩ | r | ⟨j, as, pc', ls', rest, σ'⟩
      · show run G d i pc' ls' st' σ' = cond (stop pc') _ _
        cases stop pc'
        · exact ih ..
        · rfl
      · rfl
      · cases d with
        | zero => rfl
        | succ d' =>
          show (call G d' j as σ').bind _ = (call G d' j as σ').bind _
          congr 1
          funext r
          rcases r with ⟨o, σ2⟩
          rcases o with v | e
          · show (pushR _ _ v rest).bind _ = (pushR _ _ v rest).bind _
            congr 1
            funext st'
            show run G (d' + 1) i pc' ls' st' σ2 = cond (stop pc') _ _
            cases stop pc'
            · exact ih ..
            · rfl
          · rfl
theorem hb_v {G : Glb} {d i pc : Nat} {r : Res} {ty : Option FieldType} {nul : Bool} {ls : Lo} {rest st' : List Value} {K : List Value → St → Res} {v : Option Value} {σ : St} (h : r = some (.inl v, σ)) (hp : pushR ty nul v rest = some st') : hb G d i pc r ty nul ls rest K = K st' σ := by
  subst h; show (pushR ty nul v rest).bind _ = _; rw [hp]; rfl
theorem hb_x {G : Glb} {d i pc : Nat} {r : Res} {ty : Option FieldType} {nul : Bool} {ls : Lo} {rest : List Value} {K : List Value → St → Res} {e : String} {σ : St} {h : Nat × Nat} (hr : r = some (.inr e, σ)) (hh : hnd i pc e = some h) : hb G d i pc r ty nul ls rest K = run G d i h.1 (ls.set h.2 none) [] σ := by
  subst hr; show (match hnd i pc e with
    | some h => run G d i h.1 (ls.set h.2 none) [] σ
    | none => some (.inr e, σ)) = _
  rw [hh]
-- 2 Law.add
theorem w2_e (G : Glb) (d : Nat) (a0 : Nat) (x1 : Int32) (x2 : Int32) (x3 : Int32) (σ : St) : call G (d + 1) 2 [.ref a0, .int x1, .int x2, .int x3] σ = (if rcv σ a0 5 = true then hb G (d + 1) 2 4 (call G d 45 [.ref a0, .int x1, .int x2, .int x3] σ) (retT 45) (nulT 45) [some (.ref a0), some (.int x1), some (.int x2), some (.int x3), none] [] (fun st' s' => run G (d + 1) 2 7 [some (.ref a0), some (.int x1), some (.int x2), some (.int x3), none] st' s') else none) := (blkH_eq G 2 (nst [7]) 16 (d + 1) 0 _ [] σ).trans rfl
theorem w2_r (G : Glb) (d : Nat) (a0 : Nat) (x1 : Int32) (x2 : Int32) (x3 : Int32) (v : Int32) (σ : St) : run G (d + 1) 2 7 [some (.ref a0), some (.int x1), some (.int x2), some (.int x3), none] [.int v] σ = some (.inl (some (.int v)), σ) := (blkH_eq G 2 (nst []) 16 (d + 1) 7 _ _ σ).trans rfl
theorem w2_v {G : Glb} {d : Nat} {a0 : Nat} {x1 : Int32} {x2 : Int32} {x3 : Int32} {v : Int32} {σ σ' : St} (hr : rcv σ a0 5 = true) (h : call G d 45 [.ref a0, .int x1, .int x2, .int x3] σ = vI v σ') : call G (d + 1) 2 [.ref a0, .int x1, .int x2, .int x3] σ = vI v σ' := by
  rw [w2_e, if_pos hr, hb_v h rfl, w2_r]; rfl
theorem w2_h1 (G : Glb) (d : Nat) (a0 : Nat) (x1 : Int32) (x2 : Int32) (x3 : Int32) (σ : St) : run G (d + 1) 2 10 [some (.ref a0), some (.int x1), some (.int x2), some (.int x3), none] [] σ = some (.inl (some (.int (-1))), σ) := (blkH_eq G 2 (nst []) 16 (d + 1) 10 _ _ σ).trans rfl
theorem w2_x1 {G : Glb} {d : Nat} {a0 : Nat} {x1 : Int32} {x2 : Int32} {x3 : Int32} {σ σ' : St} (hr : rcv σ a0 5 = true) (h : call G d 45 [.ref a0, .int x1, .int x2, .int x3] σ = some (.inr "java/lang/IllegalArgumentException", σ')) : call G (d + 1) 2 [.ref a0, .int x1, .int x2, .int x3] σ = vI (-1) σ' := by
  rw [w2_e, if_pos hr, hb_x h (show hnd 2 4 "java/lang/IllegalArgumentException" = some (10, 4) from by decide)]; exact w2_h1 ..
theorem w2_h2 (G : Glb) (d : Nat) (a0 : Nat) (x1 : Int32) (x2 : Int32) (x3 : Int32) (σ : St) : run G (d + 1) 2 14 [some (.ref a0), some (.int x1), some (.int x2), some (.int x3), none] [] σ = some (.inl (some (.int (-2))), σ) := (blkH_eq G 2 (nst []) 16 (d + 1) 14 _ _ σ).trans rfl
theorem w2_x2 {G : Glb} {d : Nat} {a0 : Nat} {x1 : Int32} {x2 : Int32} {x3 : Int32} {σ σ' : St} (hr : rcv σ a0 5 = true) (h : call G d 45 [.ref a0, .int x1, .int x2, .int x3] σ = some (.inr "java/lang/IllegalStateException", σ')) : call G (d + 1) 2 [.ref a0, .int x1, .int x2, .int x3] σ = vI (-2) σ' := by
  rw [w2_e, if_pos hr, hb_x h (show hnd 2 4 "java/lang/IllegalStateException" = some (14, 4) from by decide)]; exact w2_h2 ..
-- 3 Law.remove
theorem w3_e (G : Glb) (d : Nat) (a0 : Nat) (x1 : Int32) (σ : St) : call G (d + 1) 3 [.ref a0, .int x1] σ = (if rcv σ a0 5 = true then hb G (d + 1) 3 2 (call G d 46 [.ref a0, .int x1] σ) (retT 46) (nulT 46) [some (.ref a0), some (.int x1), none] [] (fun st' s' => run G (d + 1) 3 5 [some (.ref a0), some (.int x1), none] st' s') else none) := (blkH_eq G 3 (nst [5]) 11 (d + 1) 0 _ [] σ).trans rfl
theorem w3_r (G : Glb) (d : Nat) (a0 : Nat) (x1 : Int32) (v : Int32) (σ : St) : run G (d + 1) 3 5 [some (.ref a0), some (.int x1), none] [.int v] σ = some (.inl (some (.int v)), σ) := (blkH_eq G 3 (nst []) 11 (d + 1) 5 _ _ σ).trans rfl
theorem w3_v {G : Glb} {d : Nat} {a0 : Nat} {x1 : Int32} {v : Int32} {σ σ' : St} (hr : rcv σ a0 5 = true) (h : call G d 46 [.ref a0, .int x1] σ = vI v σ') : call G (d + 1) 3 [.ref a0, .int x1] σ = vI v σ' := by
  rw [w3_e, if_pos hr, hb_v h rfl, w3_r]; rfl
theorem w3_h1 (G : Glb) (d : Nat) (a0 : Nat) (x1 : Int32) (σ : St) : run G (d + 1) 3 7 [some (.ref a0), some (.int x1), none] [] σ = some (.inl (some (.int (-1))), σ) := (blkH_eq G 3 (nst []) 11 (d + 1) 7 _ _ σ).trans rfl
theorem w3_x1 {G : Glb} {d : Nat} {a0 : Nat} {x1 : Int32} {σ σ' : St} (hr : rcv σ a0 5 = true) (h : call G d 46 [.ref a0, .int x1] σ = some (.inr "java/util/NoSuchElementException", σ')) : call G (d + 1) 3 [.ref a0, .int x1] σ = vI (-1) σ' := by
  rw [w3_e, if_pos hr, hb_x h (show hnd 3 2 "java/util/NoSuchElementException" = some (7, 2) from by decide)]; exact w3_h1 ..
-- 4 Law.reject
theorem w4_e (G : Glb) (d : Nat) (a0 : Nat) (x1 : Int32) (σ : St) : call G (d + 1) 4 [.ref a0, .int x1] σ = (if rcv σ a0 5 = true then hb G (d + 1) 4 2 (call G d 47 [.ref a0, .int x1] σ) (retT 47) (nulT 47) [some (.ref a0), some (.int x1), none] [] (fun st' s' => run G (d + 1) 4 5 [some (.ref a0), some (.int x1), none] st' s') else none) := (blkH_eq G 4 (nst [5]) 11 (d + 1) 0 _ [] σ).trans rfl
theorem w4_r (G : Glb) (d : Nat) (a0 : Nat) (x1 : Int32) (v : Int32) (σ : St) : run G (d + 1) 4 5 [some (.ref a0), some (.int x1), none] [.int v] σ = some (.inl (some (.int v)), σ) := (blkH_eq G 4 (nst []) 11 (d + 1) 5 _ _ σ).trans rfl
theorem w4_v {G : Glb} {d : Nat} {a0 : Nat} {x1 : Int32} {v : Int32} {σ σ' : St} (hr : rcv σ a0 5 = true) (h : call G d 47 [.ref a0, .int x1] σ = vI v σ') : call G (d + 1) 4 [.ref a0, .int x1] σ = vI v σ' := by
  rw [w4_e, if_pos hr, hb_v h rfl, w4_r]; rfl
theorem w4_h1 (G : Glb) (d : Nat) (a0 : Nat) (x1 : Int32) (σ : St) : run G (d + 1) 4 7 [some (.ref a0), some (.int x1), none] [] σ = some (.inl (some (.int (-1))), σ) := (blkH_eq G 4 (nst []) 11 (d + 1) 7 _ _ σ).trans rfl
theorem w4_x1 {G : Glb} {d : Nat} {a0 : Nat} {x1 : Int32} {σ σ' : St} (hr : rcv σ a0 5 = true) (h : call G d 47 [.ref a0, .int x1] σ = some (.inr "java/lang/IllegalArgumentException", σ')) : call G (d + 1) 4 [.ref a0, .int x1] σ = vI (-1) σ' := by
  rw [w4_e, if_pos hr, hb_x h (show hnd 4 2 "java/lang/IllegalArgumentException" = some (7, 2) from by decide)]; exact w4_h1 ..
-- 5 Law.at
theorem w5_e (G : Glb) (d : Nat) (a0 : Nat) (x1 : Int32) (σ : St) : call G (d + 1) 5 [.ref a0, .int x1] σ = (if rcv σ a0 5 = true then hb G (d + 1) 5 2 (call G d 50 [.ref a0, .int x1] σ) (retT 50) (nulT 50) [some (.ref a0), some (.int x1), none] [] (fun st' s' => run G (d + 1) 5 5 [some (.ref a0), some (.int x1), none] st' s') else none) := (blkH_eq G 5 (nst [5]) 11 (d + 1) 0 _ [] σ).trans rfl
theorem w5_r (G : Glb) (d : Nat) (a0 : Nat) (x1 : Int32) (v : Int32) (σ : St) : run G (d + 1) 5 5 [some (.ref a0), some (.int x1), none] [.int v] σ = some (.inl (some (.int v)), σ) := (blkH_eq G 5 (nst []) 11 (d + 1) 5 _ _ σ).trans rfl
theorem w5_v {G : Glb} {d : Nat} {a0 : Nat} {x1 : Int32} {v : Int32} {σ σ' : St} (hr : rcv σ a0 5 = true) (h : call G d 50 [.ref a0, .int x1] σ = vI v σ') : call G (d + 1) 5 [.ref a0, .int x1] σ = vI v σ' := by
  rw [w5_e, if_pos hr, hb_v h rfl, w5_r]; rfl
theorem w5_h11 (G : Glb) (d : Nat) (a0 : Nat) (x1 : Int32) (σ : St) : run G (d + 1) 5 7 [some (.ref a0), some (.int x1), none] [] σ = some (.inl (some (.int (-11))), σ) := (blkH_eq G 5 (nst []) 11 (d + 1) 7 _ _ σ).trans rfl
theorem w5_x11 {G : Glb} {d : Nat} {a0 : Nat} {x1 : Int32} {σ σ' : St} (hr : rcv σ a0 5 = true) (h : call G d 50 [.ref a0, .int x1] σ = some (.inr "java/lang/IndexOutOfBoundsException", σ')) : call G (d + 1) 5 [.ref a0, .int x1] σ = vI (-11) σ' := by
  rw [w5_e, if_pos hr, hb_x h (show hnd 5 2 "java/lang/IndexOutOfBoundsException" = some (7, 2) from by decide)]; exact w5_h11 ..
-- 6 Law.shape
theorem w6_e (G : Glb) (d : Nat) (a0 : Nat) (x1 : Int32) (σ : St) : call G (d + 1) 6 [.ref a0, .int x1] σ = (if rcv σ a0 5 = true then hb G (d + 1) 6 2 (call G d 51 [.ref a0, .int x1] σ) (retT 51) (nulT 51) [some (.ref a0), some (.int x1), none] [] (fun st' s' => run G (d + 1) 6 5 [some (.ref a0), some (.int x1), none] st' s') else none) := (blkH_eq G 6 (nst [5]) 11 (d + 1) 0 _ [] σ).trans rfl
theorem w6_r (G : Glb) (d : Nat) (a0 : Nat) (x1 : Int32) (v : Int32) (σ : St) : run G (d + 1) 6 5 [some (.ref a0), some (.int x1), none] [.int v] σ = some (.inl (some (.int v)), σ) := (blkH_eq G 6 (nst []) 11 (d + 1) 5 _ _ σ).trans rfl
theorem w6_v {G : Glb} {d : Nat} {a0 : Nat} {x1 : Int32} {v : Int32} {σ σ' : St} (hr : rcv σ a0 5 = true) (h : call G d 51 [.ref a0, .int x1] σ = vI v σ') : call G (d + 1) 6 [.ref a0, .int x1] σ = vI v σ' := by
  rw [w6_e, if_pos hr, hb_v h rfl, w6_r]; rfl
theorem w6_h13 (G : Glb) (d : Nat) (a0 : Nat) (x1 : Int32) (σ : St) : run G (d + 1) 6 7 [some (.ref a0), some (.int x1), none] [] σ = some (.inl (some (.int (-13))), σ) := (blkH_eq G 6 (nst []) 11 (d + 1) 7 _ _ σ).trans rfl
theorem w6_x13 {G : Glb} {d : Nat} {a0 : Nat} {x1 : Int32} {σ σ' : St} (hr : rcv σ a0 5 = true) (h : call G d 51 [.ref a0, .int x1] σ = some (.inr "java/util/NoSuchElementException", σ')) : call G (d + 1) 6 [.ref a0, .int x1] σ = vI (-13) σ' := by
  rw [w6_e, if_pos hr, hb_x h (show hnd 6 2 "java/util/NoSuchElementException" = some (7, 2) from by decide)]; exact w6_h13 ..
-- 7 Law.rain
theorem w7_e (G : Glb) (d : Nat) (a0 : Nat) (x1 : Int32) (σ : St) : call G (d + 1) 7 [.ref a0, .int x1] σ = (if rcv σ a0 5 = true then hb G (d + 1) 7 2 (call G d 53 [.ref a0, .int x1] σ) (retT 53) (nulT 53) [some (.ref a0), some (.int x1), none] [] (fun st' s' => run G (d + 1) 7 5 [some (.ref a0), some (.int x1), none] st' s') else none) := (blkH_eq G 7 (nst [5]) 11 (d + 1) 0 _ [] σ).trans rfl
theorem w7_r (G : Glb) (d : Nat) (a0 : Nat) (x1 : Int32) (v : Int32) (σ : St) : run G (d + 1) 7 5 [some (.ref a0), some (.int x1), none] [.int v] σ = some (.inl (some (.int v)), σ) := (blkH_eq G 7 (nst []) 11 (d + 1) 5 _ _ σ).trans rfl
theorem w7_v {G : Glb} {d : Nat} {a0 : Nat} {x1 : Int32} {v : Int32} {σ σ' : St} (hr : rcv σ a0 5 = true) (h : call G d 53 [.ref a0, .int x1] σ = vI v σ') : call G (d + 1) 7 [.ref a0, .int x1] σ = vI v σ' := by
  rw [w7_e, if_pos hr, hb_v h rfl, w7_r]; rfl
theorem w7_h13 (G : Glb) (d : Nat) (a0 : Nat) (x1 : Int32) (σ : St) : run G (d + 1) 7 7 [some (.ref a0), some (.int x1), none] [] σ = some (.inl (some (.int (-13))), σ) := (blkH_eq G 7 (nst []) 11 (d + 1) 7 _ _ σ).trans rfl
theorem w7_x13 {G : Glb} {d : Nat} {a0 : Nat} {x1 : Int32} {σ σ' : St} (hr : rcv σ a0 5 = true) (h : call G d 53 [.ref a0, .int x1] σ = some (.inr "java/util/NoSuchElementException", σ')) : call G (d + 1) 7 [.ref a0, .int x1] σ = vI (-13) σ' := by
  rw [w7_e, if_pos hr, hb_x h (show hnd 7 2 "java/util/NoSuchElementException" = some (7, 2) from by decide)]; exact w7_h13 ..
-- 8 Law.coins
theorem w8_e (G : Glb) (d : Nat) (a0 : Nat) (x1 : Int32) (σ : St) : call G (d + 1) 8 [.ref a0, .int x1] σ = (if rcv σ a0 5 = true then hb G (d + 1) 8 2 (call G d 54 [.ref a0, .int x1] σ) (retT 54) (nulT 54) [some (.ref a0), some (.int x1), none] [] (fun st' s' => run G (d + 1) 8 5 [some (.ref a0), some (.int x1), none] st' s') else none) := (blkH_eq G 8 (nst [5]) 11 (d + 1) 0 _ [] σ).trans rfl
theorem w8_r (G : Glb) (d : Nat) (a0 : Nat) (x1 : Int32) (v : Int32) (σ : St) : run G (d + 1) 8 5 [some (.ref a0), some (.int x1), none] [.int v] σ = some (.inl (some (.int v)), σ) := (blkH_eq G 8 (nst []) 11 (d + 1) 5 _ _ σ).trans rfl
theorem w8_v {G : Glb} {d : Nat} {a0 : Nat} {x1 : Int32} {v : Int32} {σ σ' : St} (hr : rcv σ a0 5 = true) (h : call G d 54 [.ref a0, .int x1] σ = vI v σ') : call G (d + 1) 8 [.ref a0, .int x1] σ = vI v σ' := by
  rw [w8_e, if_pos hr, hb_v h rfl, w8_r]; rfl
theorem w8_h13 (G : Glb) (d : Nat) (a0 : Nat) (x1 : Int32) (σ : St) : run G (d + 1) 8 7 [some (.ref a0), some (.int x1), none] [] σ = some (.inl (some (.int (-13))), σ) := (blkH_eq G 8 (nst []) 11 (d + 1) 7 _ _ σ).trans rfl
theorem w8_x13 {G : Glb} {d : Nat} {a0 : Nat} {x1 : Int32} {σ σ' : St} (hr : rcv σ a0 5 = true) (h : call G d 54 [.ref a0, .int x1] σ = some (.inr "java/util/NoSuchElementException", σ')) : call G (d + 1) 8 [.ref a0, .int x1] σ = vI (-13) σ' := by
  rw [w8_e, if_pos hr, hb_x h (show hnd 8 2 "java/util/NoSuchElementException" = some (7, 2) from by decide)]; exact w8_h13 ..
-- 9 Law.isHired
theorem w9_e (G : Glb) (d : Nat) (a0 : Nat) (x1 : Int32) (σ : St) : call G (d + 1) 9 [.ref a0, .int x1] σ = (if rcv σ a0 5 = true then hb G (d + 1) 9 2 (call G d 55 [.ref a0, .int x1] σ) (retT 55) (nulT 55) [some (.ref a0), some (.int x1), none] [] (fun st' s' => run G (d + 1) 9 5 [some (.ref a0), some (.int x1), none] st' s') else none) := (blkH_eq G 9 (nst [5]) 15 (d + 1) 0 _ [] σ).trans rfl
theorem w9_r (G : Glb) (d : Nat) (a0 : Nat) (x1 : Int32) (v : Int32) (σ : St) : run G (d + 1) 9 5 [some (.ref a0), some (.int x1), none] [.int v] σ = (if v = 0 then some (.inl (some (.int 0)), σ) else some (.inl (some (.int 1)), σ)) := (blkH_eq G 9 (nst []) 15 (d + 1) 5 _ _ σ).trans rfl
theorem w9_v {G : Glb} {d : Nat} {a0 : Nat} {x1 : Int32} {v : Bool} {σ σ' : St} (hr : rcv σ a0 5 = true) (h : call G d 55 [.ref a0, .int x1] σ = vI (bI v) σ') : call G (d + 1) 9 [.ref a0, .int x1] σ = vI (bI v) σ' := by
  rw [w9_e, if_pos hr, hb_v h rfl, w9_r]
  cases v <;> rfl
theorem w9_h13 (G : Glb) (d : Nat) (a0 : Nat) (x1 : Int32) (σ : St) : run G (d + 1) 9 15 [some (.ref a0), some (.int x1), none] [] σ = some (.inl (some (.int (-13))), σ) := (blkH_eq G 9 (nst []) 15 (d + 1) 15 _ _ σ).trans rfl
theorem w9_x13 {G : Glb} {d : Nat} {a0 : Nat} {x1 : Int32} {σ σ' : St} (hr : rcv σ a0 5 = true) (h : call G d 55 [.ref a0, .int x1] σ = some (.inr "java/util/NoSuchElementException", σ')) : call G (d + 1) 9 [.ref a0, .int x1] σ = vI (-13) σ' := by
  rw [w9_e, if_pos hr, hb_x h (show hnd 9 2 "java/util/NoSuchElementException" = some (15, 2) from by decide)]; exact w9_h13 ..
-- 10 Law.postOf
theorem w10_e (G : Glb) (d : Nat) (a0 : Nat) (x1 : Int32) (σ : St) : call G (d + 1) 10 [.ref a0, .int x1] σ = (if rcv σ a0 5 = true then hb G (d + 1) 10 2 (call G d 56 [.ref a0, .int x1] σ) (retT 56) (nulT 56) [some (.ref a0), some (.int x1), none] [] (fun st' s' => run G (d + 1) 10 5 [some (.ref a0), some (.int x1), none] st' s') else none) := (blkH_eq G 10 (nst [5]) 11 (d + 1) 0 _ [] σ).trans rfl
theorem w10_r (G : Glb) (d : Nat) (a0 : Nat) (x1 : Int32) (v : Int32) (σ : St) : run G (d + 1) 10 5 [some (.ref a0), some (.int x1), none] [.int v] σ = some (.inl (some (.int v)), σ) := (blkH_eq G 10 (nst []) 11 (d + 1) 5 _ _ σ).trans rfl
theorem w10_v {G : Glb} {d : Nat} {a0 : Nat} {x1 : Int32} {v : Int32} {σ σ' : St} (hr : rcv σ a0 5 = true) (h : call G d 56 [.ref a0, .int x1] σ = vI v σ') : call G (d + 1) 10 [.ref a0, .int x1] σ = vI v σ' := by
  rw [w10_e, if_pos hr, hb_v h rfl, w10_r]; rfl
theorem w10_h13 (G : Glb) (d : Nat) (a0 : Nat) (x1 : Int32) (σ : St) : run G (d + 1) 10 7 [some (.ref a0), some (.int x1), none] [] σ = some (.inl (some (.int (-13))), σ) := (blkH_eq G 10 (nst []) 11 (d + 1) 7 _ _ σ).trans rfl
theorem w10_x13 {G : Glb} {d : Nat} {a0 : Nat} {x1 : Int32} {σ σ' : St} (hr : rcv σ a0 5 = true) (h : call G d 56 [.ref a0, .int x1] σ = some (.inr "java/util/NoSuchElementException", σ')) : call G (d + 1) 10 [.ref a0, .int x1] σ = vI (-13) σ' := by
  rw [w10_e, if_pos hr, hb_x h (show hnd 10 2 "java/util/NoSuchElementException" = some (7, 2) from by decide)]; exact w10_h13 ..
-- 11 Law.score
theorem w11_e (G : Glb) (d : Nat) (a0 : Nat) (x1 : Int32) (σ : St) : call G (d + 1) 11 [.ref a0, .int x1] σ = (if rcv σ a0 5 = true then hb G (d + 1) 11 2 (call G d 57 [.ref a0, .int x1] σ) (retT 57) (nulT 57) [some (.ref a0), some (.int x1), none] [] (fun st' s' => run G (d + 1) 11 5 [some (.ref a0), some (.int x1), none] st' s') else none) := (blkH_eq G 11 (nst [5]) 11 (d + 1) 0 _ [] σ).trans rfl
theorem w11_r (G : Glb) (d : Nat) (a0 : Nat) (x1 : Int32) (v : Int32) (σ : St) : run G (d + 1) 11 5 [some (.ref a0), some (.int x1), none] [.int v] σ = some (.inl (some (.int v)), σ) := (blkH_eq G 11 (nst []) 11 (d + 1) 5 _ _ σ).trans rfl
theorem w11_v {G : Glb} {d : Nat} {a0 : Nat} {x1 : Int32} {v : Int32} {σ σ' : St} (hr : rcv σ a0 5 = true) (h : call G d 57 [.ref a0, .int x1] σ = vI v σ') : call G (d + 1) 11 [.ref a0, .int x1] σ = vI v σ' := by
  rw [w11_e, if_pos hr, hb_v h rfl, w11_r]; rfl
theorem w11_h1013 (G : Glb) (d : Nat) (a0 : Nat) (x1 : Int32) (σ : St) : run G (d + 1) 11 7 [some (.ref a0), some (.int x1), none] [] σ = some (.inl (some (.int (-1013))), σ) := (blkH_eq G 11 (nst []) 11 (d + 1) 7 _ _ σ).trans rfl
theorem w11_x1013 {G : Glb} {d : Nat} {a0 : Nat} {x1 : Int32} {σ σ' : St} (hr : rcv σ a0 5 = true) (h : call G d 57 [.ref a0, .int x1] σ = some (.inr "java/util/NoSuchElementException", σ')) : call G (d + 1) 11 [.ref a0, .int x1] σ = vI (-1013) σ' := by
  rw [w11_e, if_pos hr, hb_x h (show hnd 11 2 "java/util/NoSuchElementException" = some (7, 2) from by decide)]; exact w11_h1013 ..
-- 12 Law.byScore
theorem w12_e (G : Glb) (d : Nat) (a0 : Nat) (x1 : Int32) (σ : St) : call G (d + 1) 12 [.ref a0, .int x1] σ = (if rcv σ a0 5 = true then hb G (d + 1) 12 2 (call G d 58 [.ref a0, .int x1] σ) (retT 58) (nulT 58) [some (.ref a0), some (.int x1), none] [] (fun st' s' => run G (d + 1) 12 5 [some (.ref a0), some (.int x1), none] st' s') else none) := (blkH_eq G 12 (nst [5]) 11 (d + 1) 0 _ [] σ).trans rfl
theorem w12_r (G : Glb) (d : Nat) (a0 : Nat) (x1 : Int32) (v : Int32) (σ : St) : run G (d + 1) 12 5 [some (.ref a0), some (.int x1), none] [.int v] σ = some (.inl (some (.int v)), σ) := (blkH_eq G 12 (nst []) 11 (d + 1) 5 _ _ σ).trans rfl
theorem w12_v {G : Glb} {d : Nat} {a0 : Nat} {x1 : Int32} {v : Int32} {σ σ' : St} (hr : rcv σ a0 5 = true) (h : call G d 58 [.ref a0, .int x1] σ = vI v σ') : call G (d + 1) 12 [.ref a0, .int x1] σ = vI v σ' := by
  rw [w12_e, if_pos hr, hb_v h rfl, w12_r]; rfl
theorem w12_h11 (G : Glb) (d : Nat) (a0 : Nat) (x1 : Int32) (σ : St) : run G (d + 1) 12 7 [some (.ref a0), some (.int x1), none] [] σ = some (.inl (some (.int (-11))), σ) := (blkH_eq G 12 (nst []) 11 (d + 1) 7 _ _ σ).trans rfl
theorem w12_x11 {G : Glb} {d : Nat} {a0 : Nat} {x1 : Int32} {σ σ' : St} (hr : rcv σ a0 5 = true) (h : call G d 58 [.ref a0, .int x1] σ = some (.inr "java/lang/IndexOutOfBoundsException", σ')) : call G (d + 1) 12 [.ref a0, .int x1] σ = vI (-11) σ' := by
  rw [w12_e, if_pos hr, hb_x h (show hnd 12 2 "java/lang/IndexOutOfBoundsException" = some (7, 2) from by decide)]; exact w12_h11 ..
-- 13 Law.refer
theorem w13_e (G : Glb) (d : Nat) (a0 : Nat) (x1 : Int32) (x2 : Int32) (σ : St) : call G (d + 1) 13 [.ref a0, .int x1, .int x2] σ = (if rcv σ a0 5 = true then hb G (d + 1) 13 3 (call G d 59 [.ref a0, .int x1, .int x2] σ) (retT 59) (nulT 59) [some (.ref a0), some (.int x1), some (.int x2), none] [] (fun st' s' => run G (d + 1) 13 6 [some (.ref a0), some (.int x1), some (.int x2), none] st' s') else none) := (blkH_eq G 13 (nst [6]) 18 (d + 1) 0 _ [] σ).trans rfl
theorem w13_r (G : Glb) (d : Nat) (a0 : Nat) (x1 : Int32) (x2 : Int32) (v : Int32) (σ : St) : run G (d + 1) 13 6 [some (.ref a0), some (.int x1), some (.int x2), none] [.int v] σ = some (.inl (some (.int v)), σ) := (blkH_eq G 13 (nst []) 18 (d + 1) 6 _ _ σ).trans rfl
theorem w13_v {G : Glb} {d : Nat} {a0 : Nat} {x1 : Int32} {x2 : Int32} {v : Int32} {σ σ' : St} (hr : rcv σ a0 5 = true) (h : call G d 59 [.ref a0, .int x1, .int x2] σ = vI v σ') : call G (d + 1) 13 [.ref a0, .int x1, .int x2] σ = vI v σ' := by
  rw [w13_e, if_pos hr, hb_v h rfl, w13_r]; rfl
theorem w13_h1 (G : Glb) (d : Nat) (a0 : Nat) (x1 : Int32) (x2 : Int32) (σ : St) : run G (d + 1) 13 8 [some (.ref a0), some (.int x1), some (.int x2), none] [] σ = some (.inl (some (.int (-1))), σ) := (blkH_eq G 13 (nst []) 18 (d + 1) 8 _ _ σ).trans rfl
theorem w13_x1 {G : Glb} {d : Nat} {a0 : Nat} {x1 : Int32} {x2 : Int32} {σ σ' : St} (hr : rcv σ a0 5 = true) (h : call G d 59 [.ref a0, .int x1, .int x2] σ = some (.inr "java/util/NoSuchElementException", σ')) : call G (d + 1) 13 [.ref a0, .int x1, .int x2] σ = vI (-1) σ' := by
  rw [w13_e, if_pos hr, hb_x h (show hnd 13 3 "java/util/NoSuchElementException" = some (8, 3) from by decide)]; exact w13_h1 ..
theorem w13_h2 (G : Glb) (d : Nat) (a0 : Nat) (x1 : Int32) (x2 : Int32) (σ : St) : run G (d + 1) 13 11 [some (.ref a0), some (.int x1), some (.int x2), none] [] σ = some (.inl (some (.int (-2))), σ) := (blkH_eq G 13 (nst []) 18 (d + 1) 11 _ _ σ).trans rfl
theorem w13_x2 {G : Glb} {d : Nat} {a0 : Nat} {x1 : Int32} {x2 : Int32} {σ σ' : St} (hr : rcv σ a0 5 = true) (h : call G d 59 [.ref a0, .int x1, .int x2] σ = some (.inr "java/lang/IllegalArgumentException", σ')) : call G (d + 1) 13 [.ref a0, .int x1, .int x2] σ = vI (-2) σ' := by
  rw [w13_e, if_pos hr, hb_x h (show hnd 13 3 "java/lang/IllegalArgumentException" = some (11, 3) from by decide)]; exact w13_h2 ..
theorem w13_h3 (G : Glb) (d : Nat) (a0 : Nat) (x1 : Int32) (x2 : Int32) (σ : St) : run G (d + 1) 13 15 [some (.ref a0), some (.int x1), some (.int x2), none] [] σ = some (.inl (some (.int (-3))), σ) := (blkH_eq G 13 (nst []) 18 (d + 1) 15 _ _ σ).trans rfl
theorem w13_x3 {G : Glb} {d : Nat} {a0 : Nat} {x1 : Int32} {x2 : Int32} {σ σ' : St} (hr : rcv σ a0 5 = true) (h : call G d 59 [.ref a0, .int x1, .int x2] σ = some (.inr "java/lang/IllegalStateException", σ')) : call G (d + 1) 13 [.ref a0, .int x1, .int x2] σ = vI (-3) σ' := by
  rw [w13_e, if_pos hr, hb_x h (show hnd 13 3 "java/lang/IllegalStateException" = some (15, 3) from by decide)]; exact w13_h3 ..
-- 14 Law.unrefer
theorem w14_e (G : Glb) (d : Nat) (a0 : Nat) (x1 : Int32) (x2 : Int32) (σ : St) : call G (d + 1) 14 [.ref a0, .int x1, .int x2] σ = (if rcv σ a0 5 = true then hb G (d + 1) 14 3 (call G d 60 [.ref a0, .int x1, .int x2] σ) (retT 60) (nulT 60) [some (.ref a0), some (.int x1), some (.int x2), none] [] (fun st' s' => run G (d + 1) 14 6 [some (.ref a0), some (.int x1), some (.int x2), none] st' s') else none) := (blkH_eq G 14 (nst [6]) 12 (d + 1) 0 _ [] σ).trans rfl
theorem w14_r (G : Glb) (d : Nat) (a0 : Nat) (x1 : Int32) (x2 : Int32) (v : Int32) (σ : St) : run G (d + 1) 14 6 [some (.ref a0), some (.int x1), some (.int x2), none] [.int v] σ = some (.inl (some (.int v)), σ) := (blkH_eq G 14 (nst []) 12 (d + 1) 6 _ _ σ).trans rfl
theorem w14_v {G : Glb} {d : Nat} {a0 : Nat} {x1 : Int32} {x2 : Int32} {v : Int32} {σ σ' : St} (hr : rcv σ a0 5 = true) (h : call G d 60 [.ref a0, .int x1, .int x2] σ = vI v σ') : call G (d + 1) 14 [.ref a0, .int x1, .int x2] σ = vI v σ' := by
  rw [w14_e, if_pos hr, hb_v h rfl, w14_r]; rfl
theorem w14_h1 (G : Glb) (d : Nat) (a0 : Nat) (x1 : Int32) (x2 : Int32) (σ : St) : run G (d + 1) 14 8 [some (.ref a0), some (.int x1), some (.int x2), none] [] σ = some (.inl (some (.int (-1))), σ) := (blkH_eq G 14 (nst []) 12 (d + 1) 8 _ _ σ).trans rfl
theorem w14_x1 {G : Glb} {d : Nat} {a0 : Nat} {x1 : Int32} {x2 : Int32} {σ σ' : St} (hr : rcv σ a0 5 = true) (h : call G d 60 [.ref a0, .int x1, .int x2] σ = some (.inr "java/util/NoSuchElementException", σ')) : call G (d + 1) 14 [.ref a0, .int x1, .int x2] σ = vI (-1) σ' := by
  rw [w14_e, if_pos hr, hb_x h (show hnd 14 3 "java/util/NoSuchElementException" = some (8, 3) from by decide)]; exact w14_h1 ..
-- 15 Law.hasReference
theorem w15_e (G : Glb) (d : Nat) (a0 : Nat) (x1 : Int32) (x2 : Int32) (σ : St) : call G (d + 1) 15 [.ref a0, .int x1, .int x2] σ = (if rcv σ a0 5 = true then hb G (d + 1) 15 3 (call G d 61 [.ref a0, .int x1, .int x2] σ) (retT 61) (nulT 61) [some (.ref a0), some (.int x1), some (.int x2), none] [] (fun st' s' => run G (d + 1) 15 6 [some (.ref a0), some (.int x1), some (.int x2), none] st' s') else none) := (blkH_eq G 15 (nst [6]) 16 (d + 1) 0 _ [] σ).trans rfl
theorem w15_r (G : Glb) (d : Nat) (a0 : Nat) (x1 : Int32) (x2 : Int32) (v : Int32) (σ : St) : run G (d + 1) 15 6 [some (.ref a0), some (.int x1), some (.int x2), none] [.int v] σ = (if v = 0 then some (.inl (some (.int 0)), σ) else some (.inl (some (.int 1)), σ)) := (blkH_eq G 15 (nst []) 16 (d + 1) 6 _ _ σ).trans rfl
theorem w15_v {G : Glb} {d : Nat} {a0 : Nat} {x1 : Int32} {x2 : Int32} {v : Bool} {σ σ' : St} (hr : rcv σ a0 5 = true) (h : call G d 61 [.ref a0, .int x1, .int x2] σ = vI (bI v) σ') : call G (d + 1) 15 [.ref a0, .int x1, .int x2] σ = vI (bI v) σ' := by
  rw [w15_e, if_pos hr, hb_v h rfl, w15_r]
  cases v <;> rfl
theorem w15_h13 (G : Glb) (d : Nat) (a0 : Nat) (x1 : Int32) (x2 : Int32) (σ : St) : run G (d + 1) 15 16 [some (.ref a0), some (.int x1), some (.int x2), none] [] σ = some (.inl (some (.int (-13))), σ) := (blkH_eq G 15 (nst []) 16 (d + 1) 16 _ _ σ).trans rfl
theorem w15_x13 {G : Glb} {d : Nat} {a0 : Nat} {x1 : Int32} {x2 : Int32} {σ σ' : St} (hr : rcv σ a0 5 = true) (h : call G d 61 [.ref a0, .int x1, .int x2] σ = some (.inr "java/util/NoSuchElementException", σ')) : call G (d + 1) 15 [.ref a0, .int x1, .int x2] σ = vI (-13) σ' := by
  rw [w15_e, if_pos hr, hb_x h (show hnd 15 3 "java/util/NoSuchElementException" = some (16, 3) from by decide)]; exact w15_h13 ..
-- 16 Law.refsFor
theorem w16_e (G : Glb) (d : Nat) (a0 : Nat) (x1 : Int32) (σ : St) : call G (d + 1) 16 [.ref a0, .int x1] σ = (if rcv σ a0 5 = true then hb G (d + 1) 16 2 (call G d 62 [.ref a0, .int x1] σ) (retT 62) (nulT 62) [some (.ref a0), some (.int x1), none] [] (fun st' s' => run G (d + 1) 16 5 [some (.ref a0), some (.int x1), none] st' s') else none) := (blkH_eq G 16 (nst [5]) 11 (d + 1) 0 _ [] σ).trans rfl
theorem w16_r (G : Glb) (d : Nat) (a0 : Nat) (x1 : Int32) (v : Int32) (σ : St) : run G (d + 1) 16 5 [some (.ref a0), some (.int x1), none] [.int v] σ = some (.inl (some (.int v)), σ) := (blkH_eq G 16 (nst []) 11 (d + 1) 5 _ _ σ).trans rfl
theorem w16_v {G : Glb} {d : Nat} {a0 : Nat} {x1 : Int32} {v : Int32} {σ σ' : St} (hr : rcv σ a0 5 = true) (h : call G d 62 [.ref a0, .int x1] σ = vI v σ') : call G (d + 1) 16 [.ref a0, .int x1] σ = vI v σ' := by
  rw [w16_e, if_pos hr, hb_v h rfl, w16_r]; rfl
theorem w16_h13 (G : Glb) (d : Nat) (a0 : Nat) (x1 : Int32) (σ : St) : run G (d + 1) 16 7 [some (.ref a0), some (.int x1), none] [] σ = some (.inl (some (.int (-13))), σ) := (blkH_eq G 16 (nst []) 11 (d + 1) 7 _ _ σ).trans rfl
theorem w16_x13 {G : Glb} {d : Nat} {a0 : Nat} {x1 : Int32} {σ σ' : St} (hr : rcv σ a0 5 = true) (h : call G d 62 [.ref a0, .int x1] σ = some (.inr "java/util/NoSuchElementException", σ')) : call G (d + 1) 16 [.ref a0, .int x1] σ = vI (-13) σ' := by
  rw [w16_e, if_pos hr, hb_x h (show hnd 16 2 "java/util/NoSuchElementException" = some (7, 2) from by decide)]; exact w16_h13 ..
-- 17 Law.refsFrom
theorem w17_e (G : Glb) (d : Nat) (a0 : Nat) (x1 : Int32) (σ : St) : call G (d + 1) 17 [.ref a0, .int x1] σ = (if rcv σ a0 5 = true then hb G (d + 1) 17 2 (call G d 63 [.ref a0, .int x1] σ) (retT 63) (nulT 63) [some (.ref a0), some (.int x1), none] [] (fun st' s' => run G (d + 1) 17 5 [some (.ref a0), some (.int x1), none] st' s') else none) := (blkH_eq G 17 (nst [5]) 11 (d + 1) 0 _ [] σ).trans rfl
theorem w17_r (G : Glb) (d : Nat) (a0 : Nat) (x1 : Int32) (v : Int32) (σ : St) : run G (d + 1) 17 5 [some (.ref a0), some (.int x1), none] [.int v] σ = some (.inl (some (.int v)), σ) := (blkH_eq G 17 (nst []) 11 (d + 1) 5 _ _ σ).trans rfl
theorem w17_v {G : Glb} {d : Nat} {a0 : Nat} {x1 : Int32} {v : Int32} {σ σ' : St} (hr : rcv σ a0 5 = true) (h : call G d 63 [.ref a0, .int x1] σ = vI v σ') : call G (d + 1) 17 [.ref a0, .int x1] σ = vI v σ' := by
  rw [w17_e, if_pos hr, hb_v h rfl, w17_r]; rfl
theorem w17_h13 (G : Glb) (d : Nat) (a0 : Nat) (x1 : Int32) (σ : St) : run G (d + 1) 17 7 [some (.ref a0), some (.int x1), none] [] σ = some (.inl (some (.int (-13))), σ) := (blkH_eq G 17 (nst []) 11 (d + 1) 7 _ _ σ).trans rfl
theorem w17_x13 {G : Glb} {d : Nat} {a0 : Nat} {x1 : Int32} {σ σ' : St} (hr : rcv σ a0 5 = true) (h : call G d 63 [.ref a0, .int x1] σ = some (.inr "java/util/NoSuchElementException", σ')) : call G (d + 1) 17 [.ref a0, .int x1] σ = vI (-13) σ' := by
  rw [w17_e, if_pos hr, hb_x h (show hnd 17 2 "java/util/NoSuchElementException" = some (7, 2) from by decide)]; exact w17_h13 ..
-- 18 Law.open
theorem w18_e (G : Glb) (d : Nat) (a0 : Nat) (x1 : Int32) (x2 : Int32) (x3 : Int32) (x4 : Int32) (σ : St) : call G (d + 1) 18 [.ref a0, .int x1, .int x2, .int x3, .int x4] σ = (if rcv σ a0 5 = true then hb G (d + 1) 18 6 (call G d 64 [.ref a0, .int x1, .int x2, .int x3, .int x4] σ) (retT 64) (nulT 64) [some (.ref a0), some (.int x1), some (.int x2), some (.int x3), some (.int x4), none] [] (fun st' s' => run G (d + 1) 18 9 [some (.ref a0), some (.int x1), some (.int x2), some (.int x3), some (.int x4), none] st' s') else none) := (blkH_eq G 18 (nst [9]) 17 (d + 1) 0 _ [] σ).trans rfl
theorem w18_r (G : Glb) (d : Nat) (a0 : Nat) (x1 : Int32) (x2 : Int32) (x3 : Int32) (x4 : Int32) (v : Int32) (σ : St) : run G (d + 1) 18 9 [some (.ref a0), some (.int x1), some (.int x2), some (.int x3), some (.int x4), none] [.int v] σ = some (.inl (some (.int v)), σ) := (blkH_eq G 18 (nst []) 17 (d + 1) 9 _ _ σ).trans rfl
theorem w18_v {G : Glb} {d : Nat} {a0 : Nat} {x1 : Int32} {x2 : Int32} {x3 : Int32} {x4 : Int32} {v : Int32} {σ σ' : St} (hr : rcv σ a0 5 = true) (h : call G d 64 [.ref a0, .int x1, .int x2, .int x3, .int x4] σ = vI v σ') : call G (d + 1) 18 [.ref a0, .int x1, .int x2, .int x3, .int x4] σ = vI v σ' := by
  rw [w18_e, if_pos hr, hb_v h rfl, w18_r]; rfl
theorem w18_h1 (G : Glb) (d : Nat) (a0 : Nat) (x1 : Int32) (x2 : Int32) (x3 : Int32) (x4 : Int32) (σ : St) : run G (d + 1) 18 12 [some (.ref a0), some (.int x1), some (.int x2), some (.int x3), some (.int x4), none] [] σ = some (.inl (some (.int (-1))), σ) := (blkH_eq G 18 (nst []) 17 (d + 1) 12 _ _ σ).trans rfl
theorem w18_x1 {G : Glb} {d : Nat} {a0 : Nat} {x1 : Int32} {x2 : Int32} {x3 : Int32} {x4 : Int32} {σ σ' : St} (hr : rcv σ a0 5 = true) (h : call G d 64 [.ref a0, .int x1, .int x2, .int x3, .int x4] σ = some (.inr "java/lang/IllegalArgumentException", σ')) : call G (d + 1) 18 [.ref a0, .int x1, .int x2, .int x3, .int x4] σ = vI (-1) σ' := by
  rw [w18_e, if_pos hr, hb_x h (show hnd 18 6 "java/lang/IllegalArgumentException" = some (12, 5) from by decide)]; exact w18_h1 ..
theorem w18_h2 (G : Glb) (d : Nat) (a0 : Nat) (x1 : Int32) (x2 : Int32) (x3 : Int32) (x4 : Int32) (σ : St) : run G (d + 1) 18 16 [some (.ref a0), some (.int x1), some (.int x2), some (.int x3), some (.int x4), none] [] σ = some (.inl (some (.int (-2))), σ) := (blkH_eq G 18 (nst []) 17 (d + 1) 16 _ _ σ).trans rfl
theorem w18_x2 {G : Glb} {d : Nat} {a0 : Nat} {x1 : Int32} {x2 : Int32} {x3 : Int32} {x4 : Int32} {σ σ' : St} (hr : rcv σ a0 5 = true) (h : call G d 64 [.ref a0, .int x1, .int x2, .int x3, .int x4] σ = some (.inr "java/lang/IllegalStateException", σ')) : call G (d + 1) 18 [.ref a0, .int x1, .int x2, .int x3, .int x4] σ = vI (-2) σ' := by
  rw [w18_e, if_pos hr, hb_x h (show hnd 18 6 "java/lang/IllegalStateException" = some (16, 5) from by decide)]; exact w18_h2 ..
-- 19 Law.close
theorem w19_e (G : Glb) (d : Nat) (a0 : Nat) (x1 : Int32) (σ : St) : call G (d + 1) 19 [.ref a0, .int x1] σ = (if rcv σ a0 5 = true then hb G (d + 1) 19 2 (call G d 65 [.ref a0, .int x1] σ) (retT 65) (nulT 65) [some (.ref a0), some (.int x1), none] [] (fun st' s' => run G (d + 1) 19 5 [some (.ref a0), some (.int x1), none] st' s') else none) := (blkH_eq G 19 (nst [5]) 15 (d + 1) 0 _ [] σ).trans rfl
theorem w19_r (G : Glb) (d : Nat) (a0 : Nat) (x1 : Int32) (v : Int32) (σ : St) : run G (d + 1) 19 5 [some (.ref a0), some (.int x1), none] [.int v] σ = (if v = 0 then some (.inl (some (.int 0)), σ) else some (.inl (some (.int 1)), σ)) := (blkH_eq G 19 (nst []) 15 (d + 1) 5 _ _ σ).trans rfl
theorem w19_v {G : Glb} {d : Nat} {a0 : Nat} {x1 : Int32} {v : Bool} {σ σ' : St} (hr : rcv σ a0 5 = true) (h : call G d 65 [.ref a0, .int x1] σ = vI (bI v) σ') : call G (d + 1) 19 [.ref a0, .int x1] σ = vI (bI v) σ' := by
  rw [w19_e, if_pos hr, hb_v h rfl, w19_r]
  cases v <;> rfl
theorem w19_h1 (G : Glb) (d : Nat) (a0 : Nat) (x1 : Int32) (σ : St) : run G (d + 1) 19 15 [some (.ref a0), some (.int x1), none] [] σ = some (.inl (some (.int (-1))), σ) := (blkH_eq G 19 (nst []) 15 (d + 1) 15 _ _ σ).trans rfl
theorem w19_x1 {G : Glb} {d : Nat} {a0 : Nat} {x1 : Int32} {σ σ' : St} (hr : rcv σ a0 5 = true) (h : call G d 65 [.ref a0, .int x1] σ = some (.inr "java/lang/IndexOutOfBoundsException", σ')) : call G (d + 1) 19 [.ref a0, .int x1] σ = vI (-1) σ' := by
  rw [w19_e, if_pos hr, hb_x h (show hnd 19 2 "java/lang/IndexOutOfBoundsException" = some (15, 2) from by decide)]; exact w19_h1 ..
-- 20 Law.required
theorem w20_e (G : Glb) (d : Nat) (a0 : Nat) (x1 : Int32) (σ : St) : call G (d + 1) 20 [.ref a0, .int x1] σ = (if rcv σ a0 5 = true then hb G (d + 1) 20 2 (call G d 68 [.ref a0, .int x1] σ) (retT 68) (nulT 68) [some (.ref a0), some (.int x1), none] [] (fun st' s' => run G (d + 1) 20 5 [some (.ref a0), some (.int x1), none] st' s') else none) := (blkH_eq G 20 (nst [5]) 11 (d + 1) 0 _ [] σ).trans rfl
theorem w20_r (G : Glb) (d : Nat) (a0 : Nat) (x1 : Int32) (v : Int32) (σ : St) : run G (d + 1) 20 5 [some (.ref a0), some (.int x1), none] [.int v] σ = some (.inl (some (.int v)), σ) := (blkH_eq G 20 (nst []) 11 (d + 1) 5 _ _ σ).trans rfl
theorem w20_v {G : Glb} {d : Nat} {a0 : Nat} {x1 : Int32} {v : Int32} {σ σ' : St} (hr : rcv σ a0 5 = true) (h : call G d 68 [.ref a0, .int x1] σ = vI v σ') : call G (d + 1) 20 [.ref a0, .int x1] σ = vI v σ' := by
  rw [w20_e, if_pos hr, hb_v h rfl, w20_r]; rfl
theorem w20_h11 (G : Glb) (d : Nat) (a0 : Nat) (x1 : Int32) (σ : St) : run G (d + 1) 20 7 [some (.ref a0), some (.int x1), none] [] σ = some (.inl (some (.int (-11))), σ) := (blkH_eq G 20 (nst []) 11 (d + 1) 7 _ _ σ).trans rfl
theorem w20_x11 {G : Glb} {d : Nat} {a0 : Nat} {x1 : Int32} {σ σ' : St} (hr : rcv σ a0 5 = true) (h : call G d 68 [.ref a0, .int x1] σ = some (.inr "java/lang/IndexOutOfBoundsException", σ')) : call G (d + 1) 20 [.ref a0, .int x1] σ = vI (-11) σ' := by
  rw [w20_e, if_pos hr, hb_x h (show hnd 20 2 "java/lang/IndexOutOfBoundsException" = some (7, 2) from by decide)]; exact w20_h11 ..
-- 21 Law.lowest
theorem w21_e (G : Glb) (d : Nat) (a0 : Nat) (x1 : Int32) (σ : St) : call G (d + 1) 21 [.ref a0, .int x1] σ = (if rcv σ a0 5 = true then hb G (d + 1) 21 2 (call G d 69 [.ref a0, .int x1] σ) (retT 69) (nulT 69) [some (.ref a0), some (.int x1), none] [] (fun st' s' => run G (d + 1) 21 5 [some (.ref a0), some (.int x1), none] st' s') else none) := (blkH_eq G 21 (nst [5]) 11 (d + 1) 0 _ [] σ).trans rfl
theorem w21_r (G : Glb) (d : Nat) (a0 : Nat) (x1 : Int32) (v : Int32) (σ : St) : run G (d + 1) 21 5 [some (.ref a0), some (.int x1), none] [.int v] σ = some (.inl (some (.int v)), σ) := (blkH_eq G 21 (nst []) 11 (d + 1) 5 _ _ σ).trans rfl
theorem w21_v {G : Glb} {d : Nat} {a0 : Nat} {x1 : Int32} {v : Int32} {σ σ' : St} (hr : rcv σ a0 5 = true) (h : call G d 69 [.ref a0, .int x1] σ = vI v σ') : call G (d + 1) 21 [.ref a0, .int x1] σ = vI v σ' := by
  rw [w21_e, if_pos hr, hb_v h rfl, w21_r]; rfl
theorem w21_h11 (G : Glb) (d : Nat) (a0 : Nat) (x1 : Int32) (σ : St) : run G (d + 1) 21 7 [some (.ref a0), some (.int x1), none] [] σ = some (.inl (some (.int (-11))), σ) := (blkH_eq G 21 (nst []) 11 (d + 1) 7 _ _ σ).trans rfl
theorem w21_x11 {G : Glb} {d : Nat} {a0 : Nat} {x1 : Int32} {σ σ' : St} (hr : rcv σ a0 5 = true) (h : call G d 69 [.ref a0, .int x1] σ = some (.inr "java/lang/IndexOutOfBoundsException", σ')) : call G (d + 1) 21 [.ref a0, .int x1] σ = vI (-11) σ' := by
  rw [w21_e, if_pos hr, hb_x h (show hnd 21 2 "java/lang/IndexOutOfBoundsException" = some (7, 2) from by decide)]; exact w21_h11 ..
-- 22 Law.highest
theorem w22_e (G : Glb) (d : Nat) (a0 : Nat) (x1 : Int32) (σ : St) : call G (d + 1) 22 [.ref a0, .int x1] σ = (if rcv σ a0 5 = true then hb G (d + 1) 22 2 (call G d 70 [.ref a0, .int x1] σ) (retT 70) (nulT 70) [some (.ref a0), some (.int x1), none] [] (fun st' s' => run G (d + 1) 22 5 [some (.ref a0), some (.int x1), none] st' s') else none) := (blkH_eq G 22 (nst [5]) 11 (d + 1) 0 _ [] σ).trans rfl
theorem w22_r (G : Glb) (d : Nat) (a0 : Nat) (x1 : Int32) (v : Int32) (σ : St) : run G (d + 1) 22 5 [some (.ref a0), some (.int x1), none] [.int v] σ = some (.inl (some (.int v)), σ) := (blkH_eq G 22 (nst []) 11 (d + 1) 5 _ _ σ).trans rfl
theorem w22_v {G : Glb} {d : Nat} {a0 : Nat} {x1 : Int32} {v : Int32} {σ σ' : St} (hr : rcv σ a0 5 = true) (h : call G d 70 [.ref a0, .int x1] σ = vI v σ') : call G (d + 1) 22 [.ref a0, .int x1] σ = vI v σ' := by
  rw [w22_e, if_pos hr, hb_v h rfl, w22_r]; rfl
theorem w22_h11 (G : Glb) (d : Nat) (a0 : Nat) (x1 : Int32) (σ : St) : run G (d + 1) 22 7 [some (.ref a0), some (.int x1), none] [] σ = some (.inl (some (.int (-11))), σ) := (blkH_eq G 22 (nst []) 11 (d + 1) 7 _ _ σ).trans rfl
theorem w22_x11 {G : Glb} {d : Nat} {a0 : Nat} {x1 : Int32} {σ σ' : St} (hr : rcv σ a0 5 = true) (h : call G d 70 [.ref a0, .int x1] σ = some (.inr "java/lang/IndexOutOfBoundsException", σ')) : call G (d + 1) 22 [.ref a0, .int x1] σ = vI (-11) σ' := by
  rw [w22_e, if_pos hr, hb_x h (show hnd 22 2 "java/lang/IndexOutOfBoundsException" = some (7, 2) from by decide)]; exact w22_h11 ..
-- 23 Law.wage
theorem w23_e (G : Glb) (d : Nat) (a0 : Nat) (x1 : Int32) (σ : St) : call G (d + 1) 23 [.ref a0, .int x1] σ = (if rcv σ a0 5 = true then hb G (d + 1) 23 2 (call G d 71 [.ref a0, .int x1] σ) (retT 71) (nulT 71) [some (.ref a0), some (.int x1), none] [] (fun st' s' => run G (d + 1) 23 5 [some (.ref a0), some (.int x1), none] st' s') else none) := (blkH_eq G 23 (nst [5]) 11 (d + 1) 0 _ [] σ).trans rfl
theorem w23_r (G : Glb) (d : Nat) (a0 : Nat) (x1 : Int32) (v : Int32) (σ : St) : run G (d + 1) 23 5 [some (.ref a0), some (.int x1), none] [.int v] σ = some (.inl (some (.int v)), σ) := (blkH_eq G 23 (nst []) 11 (d + 1) 5 _ _ σ).trans rfl
theorem w23_v {G : Glb} {d : Nat} {a0 : Nat} {x1 : Int32} {v : Int32} {σ σ' : St} (hr : rcv σ a0 5 = true) (h : call G d 71 [.ref a0, .int x1] σ = vI v σ') : call G (d + 1) 23 [.ref a0, .int x1] σ = vI v σ' := by
  rw [w23_e, if_pos hr, hb_v h rfl, w23_r]; rfl
theorem w23_h11 (G : Glb) (d : Nat) (a0 : Nat) (x1 : Int32) (σ : St) : run G (d + 1) 23 7 [some (.ref a0), some (.int x1), none] [] σ = some (.inl (some (.int (-11))), σ) := (blkH_eq G 23 (nst []) 11 (d + 1) 7 _ _ σ).trans rfl
theorem w23_x11 {G : Glb} {d : Nat} {a0 : Nat} {x1 : Int32} {σ σ' : St} (hr : rcv σ a0 5 = true) (h : call G d 71 [.ref a0, .int x1] σ = some (.inr "java/lang/IndexOutOfBoundsException", σ')) : call G (d + 1) 23 [.ref a0, .int x1] σ = vI (-11) σ' := by
  rw [w23_e, if_pos hr, hb_x h (show hnd 23 2 "java/lang/IndexOutOfBoundsException" = some (7, 2) from by decide)]; exact w23_h11 ..
-- 24 Law.filledBy
theorem w24_e (G : Glb) (d : Nat) (a0 : Nat) (x1 : Int32) (σ : St) : call G (d + 1) 24 [.ref a0, .int x1] σ = (if rcv σ a0 5 = true then hb G (d + 1) 24 2 (call G d 72 [.ref a0, .int x1] σ) (retT 72) (nulT 72) [some (.ref a0), some (.int x1), none] [] (fun st' s' => run G (d + 1) 24 5 [some (.ref a0), some (.int x1), none] st' s') else none) := (blkH_eq G 24 (nst [5]) 14 (d + 1) 0 _ [] σ).trans rfl
theorem w24_r (G : Glb) (d : Nat) (a0 : Nat) (x1 : Int32) (v : Int32) (σ : St) : run G (d + 1) 24 5 [some (.ref a0), some (.int x1), none] [.int v] σ = some (.inl (some (.int v)), σ) := (blkH_eq G 24 (nst []) 14 (d + 1) 5 _ _ σ).trans rfl
theorem w24_v {G : Glb} {d : Nat} {a0 : Nat} {x1 : Int32} {v : Int32} {σ σ' : St} (hr : rcv σ a0 5 = true) (h : call G d 72 [.ref a0, .int x1] σ = vI v σ') : call G (d + 1) 24 [.ref a0, .int x1] σ = vI v σ' := by
  rw [w24_e, if_pos hr, hb_v h rfl, w24_r]; rfl
theorem w24_h11 (G : Glb) (d : Nat) (a0 : Nat) (x1 : Int32) (σ : St) : run G (d + 1) 24 7 [some (.ref a0), some (.int x1), none] [] σ = some (.inl (some (.int (-11))), σ) := (blkH_eq G 24 (nst []) 14 (d + 1) 7 _ _ σ).trans rfl
theorem w24_x11 {G : Glb} {d : Nat} {a0 : Nat} {x1 : Int32} {σ σ' : St} (hr : rcv σ a0 5 = true) (h : call G d 72 [.ref a0, .int x1] σ = some (.inr "java/lang/IndexOutOfBoundsException", σ')) : call G (d + 1) 24 [.ref a0, .int x1] σ = vI (-11) σ' := by
  rw [w24_e, if_pos hr, hb_x h (show hnd 24 2 "java/lang/IndexOutOfBoundsException" = some (7, 2) from by decide)]; exact w24_h11 ..
theorem w24_h13 (G : Glb) (d : Nat) (a0 : Nat) (x1 : Int32) (σ : St) : run G (d + 1) 24 11 [some (.ref a0), some (.int x1), none] [] σ = some (.inl (some (.int (-13))), σ) := (blkH_eq G 24 (nst []) 14 (d + 1) 11 _ _ σ).trans rfl
theorem w24_x13 {G : Glb} {d : Nat} {a0 : Nat} {x1 : Int32} {σ σ' : St} (hr : rcv σ a0 5 = true) (h : call G d 72 [.ref a0, .int x1] σ = some (.inr "java/util/NoSuchElementException", σ')) : call G (d + 1) 24 [.ref a0, .int x1] σ = vI (-13) σ' := by
  rw [w24_e, if_pos hr, hb_x h (show hnd 24 2 "java/util/NoSuchElementException" = some (11, 2) from by decide)]; exact w24_h13 ..
-- 25 Law.suits
theorem w25_e (G : Glb) (d : Nat) (a0 : Nat) (x1 : Int32) (x2 : Int32) (σ : St) : call G (d + 1) 25 [.ref a0, .int x1, .int x2] σ = (if rcv σ a0 5 = true then hb G (d + 1) 25 3 (call G d 73 [.ref a0, .int x1, .int x2] σ) (retT 73) (nulT 73) [some (.ref a0), some (.int x1), some (.int x2), none] [] (fun st' s' => run G (d + 1) 25 6 [some (.ref a0), some (.int x1), some (.int x2), none] st' s') else none) := (blkH_eq G 25 (nst [6]) 19 (d + 1) 0 _ [] σ).trans rfl
theorem w25_r (G : Glb) (d : Nat) (a0 : Nat) (x1 : Int32) (x2 : Int32) (v : Int32) (σ : St) : run G (d + 1) 25 6 [some (.ref a0), some (.int x1), some (.int x2), none] [.int v] σ = (if v = 0 then some (.inl (some (.int 0)), σ) else some (.inl (some (.int 1)), σ)) := (blkH_eq G 25 (nst []) 19 (d + 1) 6 _ _ σ).trans rfl
theorem w25_v {G : Glb} {d : Nat} {a0 : Nat} {x1 : Int32} {x2 : Int32} {v : Bool} {σ σ' : St} (hr : rcv σ a0 5 = true) (h : call G d 73 [.ref a0, .int x1, .int x2] σ = vI (bI v) σ') : call G (d + 1) 25 [.ref a0, .int x1, .int x2] σ = vI (bI v) σ' := by
  rw [w25_e, if_pos hr, hb_v h rfl, w25_r]
  cases v <;> rfl
theorem w25_h13 (G : Glb) (d : Nat) (a0 : Nat) (x1 : Int32) (x2 : Int32) (σ : St) : run G (d + 1) 25 16 [some (.ref a0), some (.int x1), some (.int x2), none] [] σ = some (.inl (some (.int (-13))), σ) := (blkH_eq G 25 (nst []) 19 (d + 1) 16 _ _ σ).trans rfl
theorem w25_x13 {G : Glb} {d : Nat} {a0 : Nat} {x1 : Int32} {x2 : Int32} {σ σ' : St} (hr : rcv σ a0 5 = true) (h : call G d 73 [.ref a0, .int x1, .int x2] σ = some (.inr "java/util/NoSuchElementException", σ')) : call G (d + 1) 25 [.ref a0, .int x1, .int x2] σ = vI (-13) σ' := by
  rw [w25_e, if_pos hr, hb_x h (show hnd 25 3 "java/util/NoSuchElementException" = some (16, 3) from by decide)]; exact w25_h13 ..
theorem w25_h11 (G : Glb) (d : Nat) (a0 : Nat) (x1 : Int32) (x2 : Int32) (σ : St) : run G (d + 1) 25 20 [some (.ref a0), some (.int x1), some (.int x2), none] [] σ = some (.inl (some (.int (-11))), σ) := (blkH_eq G 25 (nst []) 19 (d + 1) 20 _ _ σ).trans rfl
theorem w25_x11 {G : Glb} {d : Nat} {a0 : Nat} {x1 : Int32} {x2 : Int32} {σ σ' : St} (hr : rcv σ a0 5 = true) (h : call G d 73 [.ref a0, .int x1, .int x2] σ = some (.inr "java/lang/IndexOutOfBoundsException", σ')) : call G (d + 1) 25 [.ref a0, .int x1, .int x2] σ = vI (-11) σ' := by
  rw [w25_e, if_pos hr, hb_x h (show hnd 25 3 "java/lang/IndexOutOfBoundsException" = some (20, 3) from by decide)]; exact w25_h11 ..
-- 26 Law.favourite
theorem w26_e (G : Glb) (d : Nat) (a0 : Nat) (x1 : Int32) (σ : St) : call G (d + 1) 26 [.ref a0, .int x1] σ = (if rcv σ a0 5 = true then hb G (d + 1) 26 2 (call G d 74 [.ref a0, .int x1] σ) (retT 74) (nulT 74) [some (.ref a0), some (.int x1), none] [] (fun st' s' => run G (d + 1) 26 5 [some (.ref a0), some (.int x1), none] st' s') else none) := (blkH_eq G 26 (nst [5]) 11 (d + 1) 0 _ [] σ).trans rfl
theorem w26_r (G : Glb) (d : Nat) (a0 : Nat) (x1 : Int32) (v : Int32) (σ : St) : run G (d + 1) 26 5 [some (.ref a0), some (.int x1), none] [.int v] σ = some (.inl (some (.int v)), σ) := (blkH_eq G 26 (nst []) 11 (d + 1) 5 _ _ σ).trans rfl
theorem w26_v {G : Glb} {d : Nat} {a0 : Nat} {x1 : Int32} {v : Int32} {σ σ' : St} (hr : rcv σ a0 5 = true) (h : call G d 74 [.ref a0, .int x1] σ = vI v σ') : call G (d + 1) 26 [.ref a0, .int x1] σ = vI v σ' := by
  rw [w26_e, if_pos hr, hb_v h rfl, w26_r]; rfl
theorem w26_h13 (G : Glb) (d : Nat) (a0 : Nat) (x1 : Int32) (σ : St) : run G (d + 1) 26 7 [some (.ref a0), some (.int x1), none] [] σ = some (.inl (some (.int (-13))), σ) := (blkH_eq G 26 (nst []) 11 (d + 1) 7 _ _ σ).trans rfl
theorem w26_x13 {G : Glb} {d : Nat} {a0 : Nat} {x1 : Int32} {σ σ' : St} (hr : rcv σ a0 5 = true) (h : call G d 74 [.ref a0, .int x1] σ = some (.inr "java/util/NoSuchElementException", σ')) : call G (d + 1) 26 [.ref a0, .int x1] σ = vI (-13) σ' := by
  rw [w26_e, if_pos hr, hb_x h (show hnd 26 2 "java/util/NoSuchElementException" = some (7, 2) from by decide)]; exact w26_h13 ..
-- 27 Law.best
theorem w27_e (G : Glb) (d : Nat) (a0 : Nat) (x1 : Int32) (σ : St) : call G (d + 1) 27 [.ref a0, .int x1] σ = (if rcv σ a0 5 = true then hb G (d + 1) 27 2 (call G d 75 [.ref a0, .int x1] σ) (retT 75) (nulT 75) [some (.ref a0), some (.int x1), none] [] (fun st' s' => run G (d + 1) 27 5 [some (.ref a0), some (.int x1), none] st' s') else none) := (blkH_eq G 27 (nst [5]) 14 (d + 1) 0 _ [] σ).trans rfl
theorem w27_r (G : Glb) (d : Nat) (a0 : Nat) (x1 : Int32) (v : Int32) (σ : St) : run G (d + 1) 27 5 [some (.ref a0), some (.int x1), none] [.int v] σ = some (.inl (some (.int v)), σ) := (blkH_eq G 27 (nst []) 14 (d + 1) 5 _ _ σ).trans rfl
theorem w27_v {G : Glb} {d : Nat} {a0 : Nat} {x1 : Int32} {v : Int32} {σ σ' : St} (hr : rcv σ a0 5 = true) (h : call G d 75 [.ref a0, .int x1] σ = vI v σ') : call G (d + 1) 27 [.ref a0, .int x1] σ = vI v σ' := by
  rw [w27_e, if_pos hr, hb_v h rfl, w27_r]; rfl
theorem w27_h11 (G : Glb) (d : Nat) (a0 : Nat) (x1 : Int32) (σ : St) : run G (d + 1) 27 7 [some (.ref a0), some (.int x1), none] [] σ = some (.inl (some (.int (-11))), σ) := (blkH_eq G 27 (nst []) 14 (d + 1) 7 _ _ σ).trans rfl
theorem w27_x11 {G : Glb} {d : Nat} {a0 : Nat} {x1 : Int32} {σ σ' : St} (hr : rcv σ a0 5 = true) (h : call G d 75 [.ref a0, .int x1] σ = some (.inr "java/lang/IndexOutOfBoundsException", σ')) : call G (d + 1) 27 [.ref a0, .int x1] σ = vI (-11) σ' := by
  rw [w27_e, if_pos hr, hb_x h (show hnd 27 2 "java/lang/IndexOutOfBoundsException" = some (7, 2) from by decide)]; exact w27_h11 ..
theorem w27_h13 (G : Glb) (d : Nat) (a0 : Nat) (x1 : Int32) (σ : St) : run G (d + 1) 27 11 [some (.ref a0), some (.int x1), none] [] σ = some (.inl (some (.int (-13))), σ) := (blkH_eq G 27 (nst []) 14 (d + 1) 11 _ _ σ).trans rfl
theorem w27_x13 {G : Glb} {d : Nat} {a0 : Nat} {x1 : Int32} {σ σ' : St} (hr : rcv σ a0 5 = true) (h : call G d 75 [.ref a0, .int x1] σ = some (.inr "java/util/NoSuchElementException", σ')) : call G (d + 1) 27 [.ref a0, .int x1] σ = vI (-13) σ' := by
  rw [w27_e, if_pos hr, hb_x h (show hnd 27 2 "java/util/NoSuchElementException" = some (11, 2) from by decide)]; exact w27_h13 ..
-- 28 Law.candidates
theorem w28_e (G : Glb) (d : Nat) (a0 : Nat) (x1 : Int32) (σ : St) : call G (d + 1) 28 [.ref a0, .int x1] σ = (if rcv σ a0 5 = true then hb G (d + 1) 28 2 (call G d 76 [.ref a0, .int x1] σ) (retT 76) (nulT 76) [some (.ref a0), some (.int x1), none] [] (fun st' s' => run G (d + 1) 28 5 [some (.ref a0), some (.int x1), none] st' s') else none) := (blkH_eq G 28 (nst [5]) 11 (d + 1) 0 _ [] σ).trans rfl
theorem w28_r (G : Glb) (d : Nat) (a0 : Nat) (x1 : Int32) (v : Int32) (σ : St) : run G (d + 1) 28 5 [some (.ref a0), some (.int x1), none] [.int v] σ = some (.inl (some (.int v)), σ) := (blkH_eq G 28 (nst []) 11 (d + 1) 5 _ _ σ).trans rfl
theorem w28_v {G : Glb} {d : Nat} {a0 : Nat} {x1 : Int32} {v : Int32} {σ σ' : St} (hr : rcv σ a0 5 = true) (h : call G d 76 [.ref a0, .int x1] σ = vI v σ') : call G (d + 1) 28 [.ref a0, .int x1] σ = vI v σ' := by
  rw [w28_e, if_pos hr, hb_v h rfl, w28_r]; rfl
theorem w28_h11 (G : Glb) (d : Nat) (a0 : Nat) (x1 : Int32) (σ : St) : run G (d + 1) 28 7 [some (.ref a0), some (.int x1), none] [] σ = some (.inl (some (.int (-11))), σ) := (blkH_eq G 28 (nst []) 11 (d + 1) 7 _ _ σ).trans rfl
theorem w28_x11 {G : Glb} {d : Nat} {a0 : Nat} {x1 : Int32} {σ σ' : St} (hr : rcv σ a0 5 = true) (h : call G d 76 [.ref a0, .int x1] σ = some (.inr "java/lang/IndexOutOfBoundsException", σ')) : call G (d + 1) 28 [.ref a0, .int x1] σ = vI (-11) σ' := by
  rw [w28_e, if_pos hr, hb_x h (show hnd 28 2 "java/lang/IndexOutOfBoundsException" = some (7, 2) from by decide)]; exact w28_h11 ..
-- 29 Law.hire
theorem w29_e (G : Glb) (d : Nat) (a0 : Nat) (x1 : Int32) (x2 : Int32) (σ : St) : call G (d + 1) 29 [.ref a0, .int x1, .int x2] σ = (if rcv σ a0 5 = true then hb G (d + 1) 29 3 (call G d 77 [.ref a0, .int x1, .int x2] σ) (retT 77) (nulT 77) [some (.ref a0), some (.int x1), some (.int x2), none] [] (fun st' s' => run G (d + 1) 29 6 [some (.ref a0), some (.int x1), some (.int x2), none] st' s') else none) := (blkH_eq G 29 (nst [6]) 21 (d + 1) 0 _ [] σ).trans rfl
theorem w29_r (G : Glb) (d : Nat) (a0 : Nat) (x1 : Int32) (x2 : Int32) (v : Int32) (σ : St) : run G (d + 1) 29 6 [some (.ref a0), some (.int x1), some (.int x2), none] [.int v] σ = some (.inl (some (.int v)), σ) := (blkH_eq G 29 (nst []) 21 (d + 1) 6 _ _ σ).trans rfl
theorem w29_v {G : Glb} {d : Nat} {a0 : Nat} {x1 : Int32} {x2 : Int32} {v : Int32} {σ σ' : St} (hr : rcv σ a0 5 = true) (h : call G d 77 [.ref a0, .int x1, .int x2] σ = vI v σ') : call G (d + 1) 29 [.ref a0, .int x1, .int x2] σ = vI v σ' := by
  rw [w29_e, if_pos hr, hb_v h rfl, w29_r]; rfl
theorem w29_h1 (G : Glb) (d : Nat) (a0 : Nat) (x1 : Int32) (x2 : Int32) (σ : St) : run G (d + 1) 29 8 [some (.ref a0), some (.int x1), some (.int x2), none] [] σ = some (.inl (some (.int (-1))), σ) := (blkH_eq G 29 (nst []) 21 (d + 1) 8 _ _ σ).trans rfl
theorem w29_x1 {G : Glb} {d : Nat} {a0 : Nat} {x1 : Int32} {x2 : Int32} {σ σ' : St} (hr : rcv σ a0 5 = true) (h : call G d 77 [.ref a0, .int x1, .int x2] σ = some (.inr "java/lang/IndexOutOfBoundsException", σ')) : call G (d + 1) 29 [.ref a0, .int x1, .int x2] σ = vI (-1) σ' := by
  rw [w29_e, if_pos hr, hb_x h (show hnd 29 3 "java/lang/IndexOutOfBoundsException" = some (8, 3) from by decide)]; exact w29_h1 ..
theorem w29_h2 (G : Glb) (d : Nat) (a0 : Nat) (x1 : Int32) (x2 : Int32) (σ : St) : run G (d + 1) 29 11 [some (.ref a0), some (.int x1), some (.int x2), none] [] σ = some (.inl (some (.int (-2))), σ) := (blkH_eq G 29 (nst []) 21 (d + 1) 11 _ _ σ).trans rfl
theorem w29_x2 {G : Glb} {d : Nat} {a0 : Nat} {x1 : Int32} {x2 : Int32} {σ σ' : St} (hr : rcv σ a0 5 = true) (h : call G d 77 [.ref a0, .int x1, .int x2] σ = some (.inr "java/util/NoSuchElementException", σ')) : call G (d + 1) 29 [.ref a0, .int x1, .int x2] σ = vI (-2) σ' := by
  rw [w29_e, if_pos hr, hb_x h (show hnd 29 3 "java/util/NoSuchElementException" = some (11, 3) from by decide)]; exact w29_h2 ..
theorem w29_h3 (G : Glb) (d : Nat) (a0 : Nat) (x1 : Int32) (x2 : Int32) (σ : St) : run G (d + 1) 29 15 [some (.ref a0), some (.int x1), some (.int x2), none] [] σ = some (.inl (some (.int (-3))), σ) := (blkH_eq G 29 (nst []) 21 (d + 1) 15 _ _ σ).trans rfl
theorem w29_x3 {G : Glb} {d : Nat} {a0 : Nat} {x1 : Int32} {x2 : Int32} {σ σ' : St} (hr : rcv σ a0 5 = true) (h : call G d 77 [.ref a0, .int x1, .int x2] σ = some (.inr "java/lang/IllegalStateException", σ')) : call G (d + 1) 29 [.ref a0, .int x1, .int x2] σ = vI (-3) σ' := by
  rw [w29_e, if_pos hr, hb_x h (show hnd 29 3 "java/lang/IllegalStateException" = some (15, 3) from by decide)]; exact w29_h3 ..
theorem w29_h4 (G : Glb) (d : Nat) (a0 : Nat) (x1 : Int32) (x2 : Int32) (σ : St) : run G (d + 1) 29 19 [some (.ref a0), some (.int x1), some (.int x2), none] [] σ = some (.inl (some (.int (-4))), σ) := (blkH_eq G 29 (nst []) 21 (d + 1) 19 _ _ σ).trans rfl
theorem w29_x4 {G : Glb} {d : Nat} {a0 : Nat} {x1 : Int32} {x2 : Int32} {σ σ' : St} (hr : rcv σ a0 5 = true) (h : call G d 77 [.ref a0, .int x1, .int x2] σ = some (.inr "java/lang/UnsupportedOperationException", σ')) : call G (d + 1) 29 [.ref a0, .int x1, .int x2] σ = vI (-4) σ' := by
  rw [w29_e, if_pos hr, hb_x h (show hnd 29 3 "java/lang/UnsupportedOperationException" = some (19, 3) from by decide)]; exact w29_h4 ..
-- 30 Law.hireBest
theorem w30_e (G : Glb) (d : Nat) (a0 : Nat) (x1 : Int32) (σ : St) : call G (d + 1) 30 [.ref a0, .int x1] σ = (if rcv σ a0 5 = true then hb G (d + 1) 30 2 (call G d 78 [.ref a0, .int x1] σ) (retT 78) (nulT 78) [some (.ref a0), some (.int x1), none] [] (fun st' s' => run G (d + 1) 30 5 [some (.ref a0), some (.int x1), none] st' s') else none) := (blkH_eq G 30 (nst [5]) 17 (d + 1) 0 _ [] σ).trans rfl
theorem w30_r (G : Glb) (d : Nat) (a0 : Nat) (x1 : Int32) (v : Int32) (σ : St) : run G (d + 1) 30 5 [some (.ref a0), some (.int x1), none] [.int v] σ = some (.inl (some (.int v)), σ) := (blkH_eq G 30 (nst []) 17 (d + 1) 5 _ _ σ).trans rfl
theorem w30_v {G : Glb} {d : Nat} {a0 : Nat} {x1 : Int32} {v : Int32} {σ σ' : St} (hr : rcv σ a0 5 = true) (h : call G d 78 [.ref a0, .int x1] σ = vI v σ') : call G (d + 1) 30 [.ref a0, .int x1] σ = vI v σ' := by
  rw [w30_e, if_pos hr, hb_v h rfl, w30_r]; rfl
theorem w30_h1 (G : Glb) (d : Nat) (a0 : Nat) (x1 : Int32) (σ : St) : run G (d + 1) 30 7 [some (.ref a0), some (.int x1), none] [] σ = some (.inl (some (.int (-1))), σ) := (blkH_eq G 30 (nst []) 17 (d + 1) 7 _ _ σ).trans rfl
theorem w30_x1 {G : Glb} {d : Nat} {a0 : Nat} {x1 : Int32} {σ σ' : St} (hr : rcv σ a0 5 = true) (h : call G d 78 [.ref a0, .int x1] σ = some (.inr "java/lang/IndexOutOfBoundsException", σ')) : call G (d + 1) 30 [.ref a0, .int x1] σ = vI (-1) σ' := by
  rw [w30_e, if_pos hr, hb_x h (show hnd 30 2 "java/lang/IndexOutOfBoundsException" = some (7, 2) from by decide)]; exact w30_h1 ..
theorem w30_h2 (G : Glb) (d : Nat) (a0 : Nat) (x1 : Int32) (σ : St) : run G (d + 1) 30 10 [some (.ref a0), some (.int x1), none] [] σ = some (.inl (some (.int (-2))), σ) := (blkH_eq G 30 (nst []) 17 (d + 1) 10 _ _ σ).trans rfl
theorem w30_x2 {G : Glb} {d : Nat} {a0 : Nat} {x1 : Int32} {σ σ' : St} (hr : rcv σ a0 5 = true) (h : call G d 78 [.ref a0, .int x1] σ = some (.inr "java/lang/IllegalStateException", σ')) : call G (d + 1) 30 [.ref a0, .int x1] σ = vI (-2) σ' := by
  rw [w30_e, if_pos hr, hb_x h (show hnd 30 2 "java/lang/IllegalStateException" = some (10, 2) from by decide)]; exact w30_h2 ..
theorem w30_h3 (G : Glb) (d : Nat) (a0 : Nat) (x1 : Int32) (σ : St) : run G (d + 1) 30 14 [some (.ref a0), some (.int x1), none] [] σ = some (.inl (some (.int (-3))), σ) := (blkH_eq G 30 (nst []) 17 (d + 1) 14 _ _ σ).trans rfl
theorem w30_x3 {G : Glb} {d : Nat} {a0 : Nat} {x1 : Int32} {σ σ' : St} (hr : rcv σ a0 5 = true) (h : call G d 78 [.ref a0, .int x1] σ = some (.inr "java/util/NoSuchElementException", σ')) : call G (d + 1) 30 [.ref a0, .int x1] σ = vI (-3) σ' := by
  rw [w30_e, if_pos hr, hb_x h (show hnd 30 2 "java/util/NoSuchElementException" = some (14, 2) from by decide)]; exact w30_h3 ..
-- 31 Law.dismiss
theorem w31_e (G : Glb) (d : Nat) (a0 : Nat) (x1 : Int32) (σ : St) : call G (d + 1) 31 [.ref a0, .int x1] σ = (if rcv σ a0 5 = true then hb G (d + 1) 31 2 (call G d 79 [.ref a0, .int x1] σ) (retT 79) (nulT 79) [some (.ref a0), some (.int x1), none] [] (fun st' s' => run G (d + 1) 31 5 [some (.ref a0), some (.int x1), none] st' s') else none) := (blkH_eq G 31 (nst [5]) 14 (d + 1) 0 _ [] σ).trans rfl
theorem w31_r (G : Glb) (d : Nat) (a0 : Nat) (x1 : Int32) (v : Int32) (σ : St) : run G (d + 1) 31 5 [some (.ref a0), some (.int x1), none] [.int v] σ = some (.inl (some (.int v)), σ) := (blkH_eq G 31 (nst []) 14 (d + 1) 5 _ _ σ).trans rfl
theorem w31_v {G : Glb} {d : Nat} {a0 : Nat} {x1 : Int32} {v : Int32} {σ σ' : St} (hr : rcv σ a0 5 = true) (h : call G d 79 [.ref a0, .int x1] σ = vI v σ') : call G (d + 1) 31 [.ref a0, .int x1] σ = vI v σ' := by
  rw [w31_e, if_pos hr, hb_v h rfl, w31_r]; rfl
theorem w31_h1 (G : Glb) (d : Nat) (a0 : Nat) (x1 : Int32) (σ : St) : run G (d + 1) 31 7 [some (.ref a0), some (.int x1), none] [] σ = some (.inl (some (.int (-1))), σ) := (blkH_eq G 31 (nst []) 14 (d + 1) 7 _ _ σ).trans rfl
theorem w31_x1 {G : Glb} {d : Nat} {a0 : Nat} {x1 : Int32} {σ σ' : St} (hr : rcv σ a0 5 = true) (h : call G d 79 [.ref a0, .int x1] σ = some (.inr "java/lang/IndexOutOfBoundsException", σ')) : call G (d + 1) 31 [.ref a0, .int x1] σ = vI (-1) σ' := by
  rw [w31_e, if_pos hr, hb_x h (show hnd 31 2 "java/lang/IndexOutOfBoundsException" = some (7, 2) from by decide)]; exact w31_h1 ..
theorem w31_h2 (G : Glb) (d : Nat) (a0 : Nat) (x1 : Int32) (σ : St) : run G (d + 1) 31 10 [some (.ref a0), some (.int x1), none] [] σ = some (.inl (some (.int (-2))), σ) := (blkH_eq G 31 (nst []) 14 (d + 1) 10 _ _ σ).trans rfl
theorem w31_x2 {G : Glb} {d : Nat} {a0 : Nat} {x1 : Int32} {σ σ' : St} (hr : rcv σ a0 5 = true) (h : call G d 79 [.ref a0, .int x1] σ = some (.inr "java/lang/IllegalStateException", σ')) : call G (d + 1) 31 [.ref a0, .int x1] σ = vI (-2) σ' := by
  rw [w31_e, if_pos hr, hb_x h (show hnd 31 2 "java/lang/IllegalStateException" = some (10, 2) from by decide)]; exact w31_h2 ..
-- 32 Law.passDays
theorem w32_e (G : Glb) (d : Nat) (a0 : Nat) (x1 : Int32) (σ : St) : call G (d + 1) 32 [.ref a0, .int x1] σ = (if rcv σ a0 5 = true then hb G (d + 1) 32 2 (call G d 85 [.ref a0, .int x1] σ) (retT 85) (nulT 85) [some (.ref a0), some (.int x1), none] [] (fun st' s' => run G (d + 1) 32 5 [some (.ref a0), some (.int x1), none] st' s') else none) := (blkH_eq G 32 (nst [5]) 11 (d + 1) 0 _ [] σ).trans rfl
theorem w32_r (G : Glb) (d : Nat) (a0 : Nat) (x1 : Int32) (v : Int32) (σ : St) : run G (d + 1) 32 5 [some (.ref a0), some (.int x1), none] [.int v] σ = some (.inl (some (.int v)), σ) := (blkH_eq G 32 (nst []) 11 (d + 1) 5 _ _ σ).trans rfl
theorem w32_v {G : Glb} {d : Nat} {a0 : Nat} {x1 : Int32} {v : Int32} {σ σ' : St} (hr : rcv σ a0 5 = true) (h : call G d 85 [.ref a0, .int x1] σ = vI v σ') : call G (d + 1) 32 [.ref a0, .int x1] σ = vI v σ' := by
  rw [w32_e, if_pos hr, hb_v h rfl, w32_r]; rfl
theorem w32_h1 (G : Glb) (d : Nat) (a0 : Nat) (x1 : Int32) (σ : St) : run G (d + 1) 32 7 [some (.ref a0), some (.int x1), none] [] σ = some (.inl (some (.int (-1))), σ) := (blkH_eq G 32 (nst []) 11 (d + 1) 7 _ _ σ).trans rfl
theorem w32_x1 {G : Glb} {d : Nat} {a0 : Nat} {x1 : Int32} {σ σ' : St} (hr : rcv σ a0 5 = true) (h : call G d 85 [.ref a0, .int x1] σ = some (.inr "java/lang/IllegalArgumentException", σ')) : call G (d + 1) 32 [.ref a0, .int x1] σ = vI (-1) σ' := by
  rw [w32_e, if_pos hr, hb_x h (show hnd 32 2 "java/lang/IllegalArgumentException" = some (7, 2) from by decide)]; exact w32_h1 ..
-- 33 Law.until
theorem w33_e (G : Glb) (d : Nat) (a0 : Nat) (x1 : Int32) (σ : St) : call G (d + 1) 33 [.ref a0, .int x1] σ = (if rcv σ a0 5 = true then hb G (d + 1) 33 2 (call G d 87 [.ref a0, .int x1] σ) (retT 87) (nulT 87) [some (.ref a0), some (.int x1), none] [] (fun st' s' => run G (d + 1) 33 5 [some (.ref a0), some (.int x1), none] st' s') else none) := (blkH_eq G 33 (nst [5]) 11 (d + 1) 0 _ [] σ).trans rfl
theorem w33_r (G : Glb) (d : Nat) (a0 : Nat) (x1 : Int32) (v : Int32) (σ : St) : run G (d + 1) 33 5 [some (.ref a0), some (.int x1), none] [.int v] σ = some (.inl (some (.int v)), σ) := (blkH_eq G 33 (nst []) 11 (d + 1) 5 _ _ σ).trans rfl
theorem w33_v {G : Glb} {d : Nat} {a0 : Nat} {x1 : Int32} {v : Int32} {σ σ' : St} (hr : rcv σ a0 5 = true) (h : call G d 87 [.ref a0, .int x1] σ = vI v σ') : call G (d + 1) 33 [.ref a0, .int x1] σ = vI v σ' := by
  rw [w33_e, if_pos hr, hb_v h rfl, w33_r]; rfl
theorem w33_h13 (G : Glb) (d : Nat) (a0 : Nat) (x1 : Int32) (σ : St) : run G (d + 1) 33 7 [some (.ref a0), some (.int x1), none] [] σ = some (.inl (some (.int (-13))), σ) := (blkH_eq G 33 (nst []) 11 (d + 1) 7 _ _ σ).trans rfl
theorem w33_x13 {G : Glb} {d : Nat} {a0 : Nat} {x1 : Int32} {σ σ' : St} (hr : rcv σ a0 5 = true) (h : call G d 87 [.ref a0, .int x1] σ = some (.inr "java/util/NoSuchElementException", σ')) : call G (d + 1) 33 [.ref a0, .int x1] σ = vI (-13) σ' := by
  rw [w33_e, if_pos hr, hb_x h (show hnd 33 2 "java/util/NoSuchElementException" = some (7, 2) from by decide)]; exact w33_h13 ..
-- 34 Law.write
theorem w34_e (G : Glb) (d : Nat) (a0 : Nat) (x1 : Int32) (σ : St) : call G (d + 1) 34 [.ref a0, .int x1] σ = (if rcv σ a0 5 = true then hb G (d + 1) 34 2 (call G d 91 [.ref a0, .int x1] σ) (retT 91) (nulT 91) [some (.ref a0), some (.int x1), none] [] (fun st' s' => run G (d + 1) 34 5 [some (.ref a0), some (.int x1), none] st' s') else none) := (blkH_eq G 34 (nst [5]) 11 (d + 1) 0 _ [] σ).trans rfl
theorem w34_r (G : Glb) (d : Nat) (a0 : Nat) (x1 : Int32) (v : Int32) (σ : St) : run G (d + 1) 34 5 [some (.ref a0), some (.int x1), none] [.int v] σ = some (.inl (some (.int v)), σ) := (blkH_eq G 34 (nst []) 11 (d + 1) 5 _ _ σ).trans rfl
theorem w34_v {G : Glb} {d : Nat} {a0 : Nat} {x1 : Int32} {v : Int32} {σ σ' : St} (hr : rcv σ a0 5 = true) (h : call G d 91 [.ref a0, .int x1] σ = vI v σ') : call G (d + 1) 34 [.ref a0, .int x1] σ = vI v σ' := by
  rw [w34_e, if_pos hr, hb_v h rfl, w34_r]; rfl
theorem w34_h13 (G : Glb) (d : Nat) (a0 : Nat) (x1 : Int32) (σ : St) : run G (d + 1) 34 7 [some (.ref a0), some (.int x1), none] [] σ = some (.inl (some (.int (-13))), σ) := (blkH_eq G 34 (nst []) 11 (d + 1) 7 _ _ σ).trans rfl
theorem w34_x13 {G : Glb} {d : Nat} {a0 : Nat} {x1 : Int32} {σ σ' : St} (hr : rcv σ a0 5 = true) (h : call G d 91 [.ref a0, .int x1] σ = some (.inr "java/util/NoSuchElementException", σ')) : call G (d + 1) 34 [.ref a0, .int x1] σ = vI (-13) σ' := by
  rw [w34_e, if_pos hr, hb_x h (show hnd 34 2 "java/util/NoSuchElementException" = some (7, 2) from by decide)]; exact w34_h13 ..
-- 35 Law.outputAt
theorem w35_e (G : Glb) (d : Nat) (a0 : Nat) (x1 : Int32) (σ : St) : call G (d + 1) 35 [.ref a0, .int x1] σ = (if rcv σ a0 5 = true then hb G (d + 1) 35 2 (call G d 93 [.ref a0, .int x1] σ) (retT 93) (nulT 93) [some (.ref a0), some (.int x1), none] [] (fun st' s' => run G (d + 1) 35 5 [some (.ref a0), some (.int x1), none] st' s') else none) := (blkH_eq G 35 (nst [5]) 11 (d + 1) 0 _ [] σ).trans rfl
theorem w35_r (G : Glb) (d : Nat) (a0 : Nat) (x1 : Int32) (v : Int32) (σ : St) : run G (d + 1) 35 5 [some (.ref a0), some (.int x1), none] [.int v] σ = some (.inl (some (.int v)), σ) := (blkH_eq G 35 (nst []) 11 (d + 1) 5 _ _ σ).trans rfl
theorem w35_v {G : Glb} {d : Nat} {a0 : Nat} {x1 : Int32} {v : Int32} {σ σ' : St} (hr : rcv σ a0 5 = true) (h : call G d 93 [.ref a0, .int x1] σ = vI v σ') : call G (d + 1) 35 [.ref a0, .int x1] σ = vI v σ' := by
  rw [w35_e, if_pos hr, hb_v h rfl, w35_r]; rfl
theorem w35_h11 (G : Glb) (d : Nat) (a0 : Nat) (x1 : Int32) (σ : St) : run G (d + 1) 35 7 [some (.ref a0), some (.int x1), none] [] σ = some (.inl (some (.int (-11))), σ) := (blkH_eq G 35 (nst []) 11 (d + 1) 7 _ _ σ).trans rfl
theorem w35_x11 {G : Glb} {d : Nat} {a0 : Nat} {x1 : Int32} {σ σ' : St} (hr : rcv σ a0 5 = true) (h : call G d 93 [.ref a0, .int x1] σ = some (.inr "java/lang/IndexOutOfBoundsException", σ')) : call G (d + 1) 35 [.ref a0, .int x1] σ = vI (-11) σ' := by
  rw [w35_e, if_pos hr, hb_x h (show hnd 35 2 "java/lang/IndexOutOfBoundsException" = some (7, 2) from by decide)]; exact w35_h11 ..
-- 36 Law.feed
theorem w36_e (G : Glb) (d : Nat) (a0 : Nat) (x1 : Int32) (σ : St) : call G (d + 1) 36 [.ref a0, .int x1] σ = (if rcv σ a0 5 = true then hb G (d + 1) 36 2 (call G d 95 [.ref a0, .int x1] σ) (retT 95) (nulT 95) [some (.ref a0), some (.int x1), none] [] (fun st' s' => run G (d + 1) 36 5 [some (.ref a0), some (.int x1), none] st' s') else none) := (blkH_eq G 36 (nst [5]) 11 (d + 1) 0 _ [] σ).trans rfl
theorem w36_r (G : Glb) (d : Nat) (a0 : Nat) (x1 : Int32) (v : Int32) (σ : St) : run G (d + 1) 36 5 [some (.ref a0), some (.int x1), none] [.int v] σ = some (.inl (some (.int v)), σ) := (blkH_eq G 36 (nst []) 11 (d + 1) 5 _ _ σ).trans rfl
theorem w36_v {G : Glb} {d : Nat} {a0 : Nat} {x1 : Int32} {v : Int32} {σ σ' : St} (hr : rcv σ a0 5 = true) (h : call G d 95 [.ref a0, .int x1] σ = vI v σ') : call G (d + 1) 36 [.ref a0, .int x1] σ = vI v σ' := by
  rw [w36_e, if_pos hr, hb_v h rfl, w36_r]; rfl
theorem w36_h14 (G : Glb) (d : Nat) (a0 : Nat) (x1 : Int32) (σ : St) : run G (d + 1) 36 7 [some (.ref a0), some (.int x1), none] [] σ = some (.inl (some (.int (-14))), σ) := (blkH_eq G 36 (nst []) 11 (d + 1) 7 _ _ σ).trans rfl
theorem w36_x14 {G : Glb} {d : Nat} {a0 : Nat} {x1 : Int32} {σ σ' : St} (hr : rcv σ a0 5 = true) (h : call G d 95 [.ref a0, .int x1] σ = some (.inr "java/lang/IllegalStateException", σ')) : call G (d + 1) 36 [.ref a0, .int x1] σ = vI (-14) σ' := by
  rw [w36_e, if_pos hr, hb_x h (show hnd 36 2 "java/lang/IllegalStateException" = some (7, 2) from by decide)]; exact w36_h14 ..
-- 37 Law.executes
theorem w37_e (G : Glb) (d : Nat) (a0 : Nat) (σ : St) : call G (d + 1) 37 [.ref a0] σ = (if rcv σ a0 5 = true then hb G (d + 1) 37 1 (call G d 96 [.ref a0] σ) (retT 96) (nulT 96) [some (.ref a0), none] [] (fun st' s' => run G (d + 1) 37 4 [some (.ref a0), none] st' s') else none) := (blkH_eq G 37 (nst [4]) 13 (d + 1) 0 _ [] σ).trans rfl
theorem w37_r (G : Glb) (d : Nat) (a0 : Nat) (v : Int32) (σ : St) : run G (d + 1) 37 4 [some (.ref a0), none] [.int v] σ = some (.inl (some (.int v)), σ) := (blkH_eq G 37 (nst []) 13 (d + 1) 4 _ _ σ).trans rfl
theorem w37_v {G : Glb} {d : Nat} {a0 : Nat} {v : Int32} {σ σ' : St} (hr : rcv σ a0 5 = true) (h : call G d 96 [.ref a0] σ = vI v σ') : call G (d + 1) 37 [.ref a0] σ = vI v σ' := by
  rw [w37_e, if_pos hr, hb_v h rfl, w37_r]; rfl
theorem w37_h1 (G : Glb) (d : Nat) (a0 : Nat) (σ : St) : run G (d + 1) 37 6 [some (.ref a0), none] [] σ = some (.inl (some (.int (-1))), σ) := (blkH_eq G 37 (nst []) 13 (d + 1) 6 _ _ σ).trans rfl
theorem w37_x1 {G : Glb} {d : Nat} {a0 : Nat} {σ σ' : St} (hr : rcv σ a0 5 = true) (h : call G d 96 [.ref a0] σ = some (.inr "java/lang/IllegalArgumentException", σ')) : call G (d + 1) 37 [.ref a0] σ = vI (-1) σ' := by
  rw [w37_e, if_pos hr, hb_x h (show hnd 37 1 "java/lang/IllegalArgumentException" = some (6, 1) from by decide)]; exact w37_h1 ..
theorem w37_h2 (G : Glb) (d : Nat) (a0 : Nat) (σ : St) : run G (d + 1) 37 9 [some (.ref a0), none] [] σ = some (.inl (some (.int (-2))), σ) := (blkH_eq G 37 (nst []) 13 (d + 1) 9 _ _ σ).trans rfl
theorem w37_x2 {G : Glb} {d : Nat} {a0 : Nat} {σ σ' : St} (hr : rcv σ a0 5 = true) (h : call G d 96 [.ref a0] σ = some (.inr "java/lang/UnsupportedOperationException", σ')) : call G (d + 1) 37 [.ref a0] σ = vI (-2) σ' := by
  rw [w37_e, if_pos hr, hb_x h (show hnd 37 1 "java/lang/UnsupportedOperationException" = some (9, 1) from by decide)]; exact w37_h2 ..
-- 38 Law.undo
theorem w38_e (G : Glb) (d : Nat) (a0 : Nat) (σ : St) : call G (d + 1) 38 [.ref a0] σ = (if rcv σ a0 5 = true then hb G (d + 1) 38 1 (call G d 99 [.ref a0] σ) (retT 99) (nulT 99) [some (.ref a0), none] [] (fun st' s' => run G (d + 1) 38 4 [some (.ref a0), none] st' s') else none) := (blkH_eq G 38 (nst [4]) 10 (d + 1) 0 _ [] σ).trans rfl
theorem w38_r (G : Glb) (d : Nat) (a0 : Nat) (v : Int32) (σ : St) : run G (d + 1) 38 4 [some (.ref a0), none] [.int v] σ = some (.inl (some (.int v)), σ) := (blkH_eq G 38 (nst []) 10 (d + 1) 4 _ _ σ).trans rfl
theorem w38_v {G : Glb} {d : Nat} {a0 : Nat} {v : Int32} {σ σ' : St} (hr : rcv σ a0 5 = true) (h : call G d 99 [.ref a0] σ = vI v σ') : call G (d + 1) 38 [.ref a0] σ = vI v σ' := by
  rw [w38_e, if_pos hr, hb_v h rfl, w38_r]; rfl
theorem w38_h1 (G : Glb) (d : Nat) (a0 : Nat) (σ : St) : run G (d + 1) 38 6 [some (.ref a0), none] [] σ = some (.inl (some (.int (-1))), σ) := (blkH_eq G 38 (nst []) 10 (d + 1) 6 _ _ σ).trans rfl
theorem w38_x1 {G : Glb} {d : Nat} {a0 : Nat} {σ σ' : St} (hr : rcv σ a0 5 = true) (h : call G d 99 [.ref a0] σ = some (.inr "java/lang/IllegalStateException", σ')) : call G (d + 1) 38 [.ref a0] σ = vI (-1) σ' := by
  rw [w38_e, if_pos hr, hb_x h (show hnd 38 1 "java/lang/IllegalStateException" = some (6, 1) from by decide)]; exact w38_h1 ..
