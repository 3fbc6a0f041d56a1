/-! THE LAW'S WRAPPERS (printed by wip/whole/gen_wrp.py): a call of the class whose exceptions are caught. -/
noncomputable def hb (G : Glb) (d i pc : Nat) (r : Res) (ty : Option FieldType) (nul : Bool) (ls : Lo) (rest : List Value) (K : List Value → St → Res) : Res := r.bind fun r' => match r'.1 with
  | .inl v => (pushR ty nul v rest).bind fun st' => K st' r'.2
  | .inr e => match hnd i pc e with
    | some h => run G d i h.1 (ls.set h.2 none) [] r'.2
    | none => some r'
noncomputable def blkH (G : Glb) (d i : Nat) (stop : Nat → Bool) : Nat → Nat → Lo → List Value → St → Res
  | 0, pc, ls, st, σ => run G d i pc ls st σ
  | N + 1, pc, ls, st, σ => match insT i pc with
    | none => none
    | some q => sem G i q.1 q.2 pc ls st σ fun nx => match nx with
      | .inl (pc', ls', st', σ') => cond (stop pc') (run G d i pc' ls' st' σ') (blkH G d i stop N pc' ls' st' σ')
      | .inr (.inl r) => some r
      | .inr (.inr (j, as, pc', ls', rest, σ')) => match d with
        | 0 => none
        | d' + 1 => hb G (d' + 1) i pc (call G d' j as σ') (retT j) (nulT j) ls' rest fun st' σ'' => cond (stop pc') (run G (d' + 1) i pc' ls' st' σ'') (blkH G (d' + 1) i stop N pc' ls' st' σ'')
theorem blkH_eq (G : Glb) (i : Nat) (stop : Nat → Bool) : ∀ (N d pc : Nat) (ls : Lo) (st : List Value) (σ : St), run G d i pc ls st σ = blkH G d i stop N pc ls st σ := by
  intro N
  induction N with
  | zero => intros; rfl
  | succ N ih =>
    intro d pc ls st σ
    rw [run_eq, blkH]
    cases insT i pc with
    | none => rfl
    | some q =>
      show sem G i q.1 q.2 pc ls st σ _ = sem G i q.1 q.2 pc ls st σ _
      congr 1
      funext nx
      rcases nx with ⟨pc', ls', st', σ'⟩ | r | ⟨j, as, pc', ls', rest, σ'⟩
      · show run G d i pc' ls' st' σ' = cond (stop pc') _ _
        cases stop pc'
        · exact ih ..
        · rfl
      · rfl
      · cases d with
        | zero => rfl
        | succ d' =>
          show (call G d' j as σ').bind _ = (call G d' j as σ').bind _
          congr 1
          funext r
          rcases r with ⟨o, σ2⟩
          rcases o with v | e
          · show (pushR _ _ v rest).bind _ = (pushR _ _ v rest).bind _
            congr 1
            funext st'
            show run G (d' + 1) i pc' ls' st' σ2 = cond (stop pc') _ _
            cases stop pc'
            · exact ih ..
            · rfl
          · rfl
theorem hb_v {G : Glb} {d i pc : Nat} {r : Res} {ty : Option FieldType} {nul : Bool} {ls : Lo} {rest st' : List Value} {K : List Value → St → Res} {v : Option Value} {σ : St} (h : r = some (.inl v, σ)) (hp : pushR ty nul v rest = some st') : hb G d i pc r ty nul ls rest K = K st' σ := by
  subst h; show (pushR ty nul v rest).bind _ = _; rw [hp]; rfl
theorem hb_x {G : Glb} {d i pc : Nat} {r : Res} {ty : Option FieldType} {nul : Bool} {ls : Lo} {rest : List Value} {K : List Value → St → Res} {e : String} {σ : St} {h : Nat × Nat} (hr : r = some (.inr e, σ)) (hh : hnd i pc e = some h) : hb G d i pc r ty nul ls rest K = run G d i h.1 (ls.set h.2 none) [] σ := by
  subst hr; show (match hnd i pc e with
    | some h => run G d i h.1 (ls.set h.2 none) [] σ
    | none => some (.inr e, σ)) = _
  rw [hh]
-- 1 Law.addApplicant
theorem w1_e (G : Glb) (d : Nat) (a0 : Nat) (x1 : Int32) (x2 : Int32) (x3 : Int32) (a4 : Nat) (σ : St) : call G (d + 1) 1 [.ref a0, .int x1, .int x2, .int x3, .ref a4] σ = (if rcv σ a0 5 = true then hb G (d + 1) 1 7 (call G d 45 [.ref a0, .int x1, .int x2, .int x3] σ) (retT 45) (nulT 45) [some (.ref a0), some (.int x1), some (.int x2), some (.int x3), some (.ref a4), none] [.int 0, .ref a4] (fun st' s' => run G (d + 1) 1 10 [some (.ref a0), some (.int x1), some (.int x2), some (.int x3), some (.ref a4), none] st' s') else none) := (blkH_eq G 1 (nst [10]) 22 (d + 1) 0 _ [] σ).trans rfl
theorem w1_r (G : Glb) (d : Nat) (a0 : Nat) (x1 : Int32) (x2 : Int32) (x3 : Int32) (a4 : Nat) (v : Int32) (σ : St) : run G (d + 1) 1 10 [some (.ref a0), some (.int x1), some (.int x2), some (.int x3), some (.ref a4), none] [.int v, .int 0, .ref a4] σ = ((aW σ (fun t => t == .long) a4 0 (.long (v : Int32).toInt64)).bind fun s1 => some (.inl (some (.int 0)), s1)) := (blkH_eq G 1 (nst []) 22 (d + 1) 10 _ _ σ).trans rfl
theorem w1_h1 (G : Glb) (d : Nat) (a0 : Nat) (x1 : Int32) (x2 : Int32) (x3 : Int32) (a4 : Nat) (σ : St) : run G (d + 1) 1 17 [some (.ref a0), some (.int x1), some (.int x2), some (.int x3), some (.ref a4), none] [] σ = some (.inl (some (.int 1)), σ) := (blkH_eq G 1 (nst []) 22 (d + 1) 17 _ _ σ).trans rfl
theorem w1_h2 (G : Glb) (d : Nat) (a0 : Nat) (x1 : Int32) (x2 : Int32) (x3 : Int32) (a4 : Nat) (σ : St) : run G (d + 1) 1 21 [some (.ref a0), some (.int x1), some (.int x2), some (.int x3), some (.ref a4), none] [] σ = some (.inl (some (.int 2)), σ) := (blkH_eq G 1 (nst []) 22 (d + 1) 21 _ _ σ).trans rfl
theorem w1_v {G : Glb} {d : Nat} {a0 : Nat} {x1 : Int32} {x2 : Int32} {x3 : Int32} {a4 : Nat} {v : Int32} {σ σ' σ'' : St} (hr : rcv σ a0 5 = true) (h : call G d 45 [.ref a0, .int x1, .int x2, .int x3] σ = vI v σ') (hw : aW σ' (fun t => t == .long) a4 0 (.long v.toInt64) = some σ'') : call G (d + 1) 1 [.ref a0, .int x1, .int x2, .int x3, .ref a4] σ = vI 0 σ'' := by
  rw [w1_e, if_pos hr, hb_v h rfl, w1_r, hw]; rfl
theorem w1_x1 {G : Glb} {d : Nat} {a0 : Nat} {x1 : Int32} {x2 : Int32} {x3 : Int32} {a4 : Nat} {e : String} {σ σ' : St} (hr : rcv σ a0 5 = true) (h : call G d 45 [.ref a0, .int x1, .int x2, .int x3] σ = some (.inr e, σ')) (he : hnd 1 7 e = some (17, 5)) : call G (d + 1) 1 [.ref a0, .int x1, .int x2, .int x3, .ref a4] σ = vI 1 σ' := by
  rw [w1_e, if_pos hr, hb_x h he]; exact w1_h1 ..
theorem w1_x2 {G : Glb} {d : Nat} {a0 : Nat} {x1 : Int32} {x2 : Int32} {x3 : Int32} {a4 : Nat} {e : String} {σ σ' : St} (hr : rcv σ a0 5 = true) (h : call G d 45 [.ref a0, .int x1, .int x2, .int x3] σ = some (.inr e, σ')) (he : hnd 1 7 e = some (21, 5)) : call G (d + 1) 1 [.ref a0, .int x1, .int x2, .int x3, .ref a4] σ = vI 2 σ' := by
  rw [w1_e, if_pos hr, hb_x h he]; exact w1_h2 ..
-- 2 Law.removeApplicant
theorem w2_e (G : Glb) (d : Nat) (a0 : Nat) (x1 : Int32) (a2 : Nat) (σ : St) : call G (d + 1) 2 [.ref a0, .int x1, .ref a2] σ = (if rcv σ a0 5 = true then hb G (d + 1) 2 4 (call G d 46 [.ref a0, .int x1] σ) (retT 46) (nulT 46) [some (.ref a0), some (.int x1), some (.ref a2), none] [.int 0, .ref a2] (fun st' s' => run G (d + 1) 2 7 [some (.ref a0), some (.int x1), some (.ref a2), none] st' s') else none) := (blkH_eq G 2 (nst [7]) 17 (d + 1) 0 _ [] σ).trans rfl
theorem w2_r (G : Glb) (d : Nat) (a0 : Nat) (x1 : Int32) (a2 : Nat) (v : Int32) (σ : St) : run G (d + 1) 2 7 [some (.ref a0), some (.int x1), some (.ref a2), none] [.int v, .int 0, .ref a2] σ = ((aW σ (fun t => t == .long) a2 0 (.long (v : Int32).toInt64)).bind fun s1 => some (.inl (some (.int 0)), s1)) := (blkH_eq G 2 (nst []) 17 (d + 1) 7 _ _ σ).trans rfl
theorem w2_h1 (G : Glb) (d : Nat) (a0 : Nat) (x1 : Int32) (a2 : Nat) (σ : St) : run G (d + 1) 2 13 [some (.ref a0), some (.int x1), some (.ref a2), none] [] σ = some (.inl (some (.int 1)), σ) := (blkH_eq G 2 (nst []) 17 (d + 1) 13 _ _ σ).trans rfl
theorem w2_v {G : Glb} {d : Nat} {a0 : Nat} {x1 : Int32} {a2 : Nat} {v : Int32} {σ σ' σ'' : St} (hr : rcv σ a0 5 = true) (h : call G d 46 [.ref a0, .int x1] σ = vI v σ') (hw : aW σ' (fun t => t == .long) a2 0 (.long v.toInt64) = some σ'') : call G (d + 1) 2 [.ref a0, .int x1, .ref a2] σ = vI 0 σ'' := by
  rw [w2_e, if_pos hr, hb_v h rfl, w2_r, hw]; rfl
theorem w2_x1 {G : Glb} {d : Nat} {a0 : Nat} {x1 : Int32} {a2 : Nat} {e : String} {σ σ' : St} (hr : rcv σ a0 5 = true) (h : call G d 46 [.ref a0, .int x1] σ = some (.inr e, σ')) (he : hnd 2 4 e = some (13, 3)) : call G (d + 1) 2 [.ref a0, .int x1, .ref a2] σ = vI 1 σ' := by
  rw [w2_e, if_pos hr, hb_x h he]; exact w2_h1 ..
-- 3 Law.rejectRainy
theorem w3_e (G : Glb) (d : Nat) (a0 : Nat) (x1 : Int32) (a2 : Nat) (σ : St) : call G (d + 1) 3 [.ref a0, .int x1, .ref a2] σ = (if rcv σ a0 5 = true then hb G (d + 1) 3 4 (call G d 47 [.ref a0, .int x1] σ) (retT 47) (nulT 47) [some (.ref a0), some (.int x1), some (.ref a2), none] [.int 0, .ref a2] (fun st' s' => run G (d + 1) 3 7 [some (.ref a0), some (.int x1), some (.ref a2), none] st' s') else none) := (blkH_eq G 3 (nst [7]) 17 (d + 1) 0 _ [] σ).trans rfl
theorem w3_r (G : Glb) (d : Nat) (a0 : Nat) (x1 : Int32) (a2 : Nat) (v : Int32) (σ : St) : run G (d + 1) 3 7 [some (.ref a0), some (.int x1), some (.ref a2), none] [.int v, .int 0, .ref a2] σ = ((aW σ (fun t => t == .long) a2 0 (.long (v : Int32).toInt64)).bind fun s1 => some (.inl (some (.int 0)), s1)) := (blkH_eq G 3 (nst []) 17 (d + 1) 7 _ _ σ).trans rfl
theorem w3_h1 (G : Glb) (d : Nat) (a0 : Nat) (x1 : Int32) (a2 : Nat) (σ : St) : run G (d + 1) 3 13 [some (.ref a0), some (.int x1), some (.ref a2), none] [] σ = some (.inl (some (.int 1)), σ) := (blkH_eq G 3 (nst []) 17 (d + 1) 13 _ _ σ).trans rfl
theorem w3_v {G : Glb} {d : Nat} {a0 : Nat} {x1 : Int32} {a2 : Nat} {v : Int32} {σ σ' σ'' : St} (hr : rcv σ a0 5 = true) (h : call G d 47 [.ref a0, .int x1] σ = vI v σ') (hw : aW σ' (fun t => t == .long) a2 0 (.long v.toInt64) = some σ'') : call G (d + 1) 3 [.ref a0, .int x1, .ref a2] σ = vI 0 σ'' := by
  rw [w3_e, if_pos hr, hb_v h rfl, w3_r, hw]; rfl
theorem w3_x1 {G : Glb} {d : Nat} {a0 : Nat} {x1 : Int32} {a2 : Nat} {e : String} {σ σ' : St} (hr : rcv σ a0 5 = true) (h : call G d 47 [.ref a0, .int x1] σ = some (.inr e, σ')) (he : hnd 3 4 e = some (13, 3)) : call G (d + 1) 3 [.ref a0, .int x1, .ref a2] σ = vI 1 σ' := by
  rw [w3_e, if_pos hr, hb_x h he]; exact w3_h1 ..
-- 4 Law.applicant
theorem w4_e (G : Glb) (d : Nat) (a0 : Nat) (x1 : Int32) (a2 : Nat) (σ : St) : call G (d + 1) 4 [.ref a0, .int x1, .ref a2] σ = (if rcv σ a0 5 = true then hb G (d + 1) 4 4 (call G d 50 [.ref a0, .int x1] σ) (retT 50) (nulT 50) [some (.ref a0), some (.int x1), some (.ref a2), none] [.int 0, .ref a2] (fun st' s' => run G (d + 1) 4 7 [some (.ref a0), some (.int x1), some (.ref a2), none] st' s') else none) := (blkH_eq G 4 (nst [7]) 17 (d + 1) 0 _ [] σ).trans rfl
theorem w4_r (G : Glb) (d : Nat) (a0 : Nat) (x1 : Int32) (a2 : Nat) (v : Int32) (σ : St) : run G (d + 1) 4 7 [some (.ref a0), some (.int x1), some (.ref a2), none] [.int v, .int 0, .ref a2] σ = ((aW σ (fun t => t == .long) a2 0 (.long (v : Int32).toInt64)).bind fun s1 => some (.inl (some (.int 0)), s1)) := (blkH_eq G 4 (nst []) 17 (d + 1) 7 _ _ σ).trans rfl
theorem w4_h1 (G : Glb) (d : Nat) (a0 : Nat) (x1 : Int32) (a2 : Nat) (σ : St) : run G (d + 1) 4 13 [some (.ref a0), some (.int x1), some (.ref a2), none] [] σ = some (.inl (some (.int 1)), σ) := (blkH_eq G 4 (nst []) 17 (d + 1) 13 _ _ σ).trans rfl
theorem w4_v {G : Glb} {d : Nat} {a0 : Nat} {x1 : Int32} {a2 : Nat} {v : Int32} {σ σ' σ'' : St} (hr : rcv σ a0 5 = true) (h : call G d 50 [.ref a0, .int x1] σ = vI v σ') (hw : aW σ' (fun t => t == .long) a2 0 (.long v.toInt64) = some σ'') : call G (d + 1) 4 [.ref a0, .int x1, .ref a2] σ = vI 0 σ'' := by
  rw [w4_e, if_pos hr, hb_v h rfl, w4_r, hw]; rfl
theorem w4_x1 {G : Glb} {d : Nat} {a0 : Nat} {x1 : Int32} {a2 : Nat} {e : String} {σ σ' : St} (hr : rcv σ a0 5 = true) (h : call G d 50 [.ref a0, .int x1] σ = some (.inr e, σ')) (he : hnd 4 4 e = some (13, 3)) : call G (d + 1) 4 [.ref a0, .int x1, .ref a2] σ = vI 1 σ' := by
  rw [w4_e, if_pos hr, hb_x h he]; exact w4_h1 ..
-- 5 Law.shape
theorem w5_e (G : Glb) (d : Nat) (a0 : Nat) (x1 : Int32) (a2 : Nat) (σ : St) : call G (d + 1) 5 [.ref a0, .int x1, .ref a2] σ = (if rcv σ a0 5 = true then hb G (d + 1) 5 4 (call G d 51 [.ref a0, .int x1] σ) (retT 51) (nulT 51) [some (.ref a0), some (.int x1), some (.ref a2), none] [.int 0, .ref a2] (fun st' s' => run G (d + 1) 5 7 [some (.ref a0), some (.int x1), some (.ref a2), none] st' s') else none) := (blkH_eq G 5 (nst [7]) 17 (d + 1) 0 _ [] σ).trans rfl
theorem w5_r (G : Glb) (d : Nat) (a0 : Nat) (x1 : Int32) (a2 : Nat) (v : Int32) (σ : St) : run G (d + 1) 5 7 [some (.ref a0), some (.int x1), some (.ref a2), none] [.int v, .int 0, .ref a2] σ = ((aW σ (fun t => t == .long) a2 0 (.long (v : Int32).toInt64)).bind fun s1 => some (.inl (some (.int 0)), s1)) := (blkH_eq G 5 (nst []) 17 (d + 1) 7 _ _ σ).trans rfl
theorem w5_h1 (G : Glb) (d : Nat) (a0 : Nat) (x1 : Int32) (a2 : Nat) (σ : St) : run G (d + 1) 5 13 [some (.ref a0), some (.int x1), some (.ref a2), none] [] σ = some (.inl (some (.int 1)), σ) := (blkH_eq G 5 (nst []) 17 (d + 1) 13 _ _ σ).trans rfl
theorem w5_v {G : Glb} {d : Nat} {a0 : Nat} {x1 : Int32} {a2 : Nat} {v : Int32} {σ σ' σ'' : St} (hr : rcv σ a0 5 = true) (h : call G d 51 [.ref a0, .int x1] σ = vI v σ') (hw : aW σ' (fun t => t == .long) a2 0 (.long v.toInt64) = some σ'') : call G (d + 1) 5 [.ref a0, .int x1, .ref a2] σ = vI 0 σ'' := by
  rw [w5_e, if_pos hr, hb_v h rfl, w5_r, hw]; rfl
theorem w5_x1 {G : Glb} {d : Nat} {a0 : Nat} {x1 : Int32} {a2 : Nat} {e : String} {σ σ' : St} (hr : rcv σ a0 5 = true) (h : call G d 51 [.ref a0, .int x1] σ = some (.inr e, σ')) (he : hnd 5 4 e = some (13, 3)) : call G (d + 1) 5 [.ref a0, .int x1, .ref a2] σ = vI 1 σ' := by
  rw [w5_e, if_pos hr, hb_x h he]; exact w5_h1 ..
-- 6 Law.whiteness
theorem w6_e (G : Glb) (d : Nat) (a0 : Nat) (x1 : Int32) (a2 : Nat) (σ : St) : call G (d + 1) 6 [.ref a0, .int x1, .ref a2] σ = (if rcv σ a0 5 = true then hb G (d + 1) 6 4 (call G d 52 [.ref a0, .int x1] σ) (retT 52) (nulT 52) [some (.ref a0), some (.int x1), some (.ref a2), none] [.int 0, .ref a2] (fun st' s' => run G (d + 1) 6 7 [some (.ref a0), some (.int x1), some (.ref a2), none] st' s') else none) := (blkH_eq G 6 (nst [7]) 17 (d + 1) 0 _ [] σ).trans rfl
theorem w6_r (G : Glb) (d : Nat) (a0 : Nat) (x1 : Int32) (a2 : Nat) (v : Int32) (σ : St) : run G (d + 1) 6 7 [some (.ref a0), some (.int x1), some (.ref a2), none] [.int v, .int 0, .ref a2] σ = ((aW σ (fun t => t == .long) a2 0 (.long (v : Int32).toInt64)).bind fun s1 => some (.inl (some (.int 0)), s1)) := (blkH_eq G 6 (nst []) 17 (d + 1) 7 _ _ σ).trans rfl
theorem w6_h1 (G : Glb) (d : Nat) (a0 : Nat) (x1 : Int32) (a2 : Nat) (σ : St) : run G (d + 1) 6 13 [some (.ref a0), some (.int x1), some (.ref a2), none] [] σ = some (.inl (some (.int 1)), σ) := (blkH_eq G 6 (nst []) 17 (d + 1) 13 _ _ σ).trans rfl
theorem w6_v {G : Glb} {d : Nat} {a0 : Nat} {x1 : Int32} {a2 : Nat} {v : Int32} {σ σ' σ'' : St} (hr : rcv σ a0 5 = true) (h : call G d 52 [.ref a0, .int x1] σ = vI v σ') (hw : aW σ' (fun t => t == .long) a2 0 (.long v.toInt64) = some σ'') : call G (d + 1) 6 [.ref a0, .int x1, .ref a2] σ = vI 0 σ'' := by
  rw [w6_e, if_pos hr, hb_v h rfl, w6_r, hw]; rfl
theorem w6_x1 {G : Glb} {d : Nat} {a0 : Nat} {x1 : Int32} {a2 : Nat} {e : String} {σ σ' : St} (hr : rcv σ a0 5 = true) (h : call G d 52 [.ref a0, .int x1] σ = some (.inr e, σ')) (he : hnd 6 4 e = some (13, 3)) : call G (d + 1) 6 [.ref a0, .int x1, .ref a2] σ = vI 1 σ' := by
  rw [w6_e, if_pos hr, hb_x h he]; exact w6_h1 ..
-- 7 Law.rain
theorem w7_e (G : Glb) (d : Nat) (a0 : Nat) (x1 : Int32) (a2 : Nat) (σ : St) : call G (d + 1) 7 [.ref a0, .int x1, .ref a2] σ = (if rcv σ a0 5 = true then hb G (d + 1) 7 4 (call G d 53 [.ref a0, .int x1] σ) (retT 53) (nulT 53) [some (.ref a0), some (.int x1), some (.ref a2), none] [.int 0, .ref a2] (fun st' s' => run G (d + 1) 7 7 [some (.ref a0), some (.int x1), some (.ref a2), none] st' s') else none) := (blkH_eq G 7 (nst [7]) 17 (d + 1) 0 _ [] σ).trans rfl
theorem w7_r (G : Glb) (d : Nat) (a0 : Nat) (x1 : Int32) (a2 : Nat) (v : Int32) (σ : St) : run G (d + 1) 7 7 [some (.ref a0), some (.int x1), some (.ref a2), none] [.int v, .int 0, .ref a2] σ = ((aW σ (fun t => t == .long) a2 0 (.long (v : Int32).toInt64)).bind fun s1 => some (.inl (some (.int 0)), s1)) := (blkH_eq G 7 (nst []) 17 (d + 1) 7 _ _ σ).trans rfl
theorem w7_h1 (G : Glb) (d : Nat) (a0 : Nat) (x1 : Int32) (a2 : Nat) (σ : St) : run G (d + 1) 7 13 [some (.ref a0), some (.int x1), some (.ref a2), none] [] σ = some (.inl (some (.int 1)), σ) := (blkH_eq G 7 (nst []) 17 (d + 1) 13 _ _ σ).trans rfl
theorem w7_v {G : Glb} {d : Nat} {a0 : Nat} {x1 : Int32} {a2 : Nat} {v : Int32} {σ σ' σ'' : St} (hr : rcv σ a0 5 = true) (h : call G d 53 [.ref a0, .int x1] σ = vI v σ') (hw : aW σ' (fun t => t == .long) a2 0 (.long v.toInt64) = some σ'') : call G (d + 1) 7 [.ref a0, .int x1, .ref a2] σ = vI 0 σ'' := by
  rw [w7_e, if_pos hr, hb_v h rfl, w7_r, hw]; rfl
theorem w7_x1 {G : Glb} {d : Nat} {a0 : Nat} {x1 : Int32} {a2 : Nat} {e : String} {σ σ' : St} (hr : rcv σ a0 5 = true) (h : call G d 53 [.ref a0, .int x1] σ = some (.inr e, σ')) (he : hnd 7 4 e = some (13, 3)) : call G (d + 1) 7 [.ref a0, .int x1, .ref a2] σ = vI 1 σ' := by
  rw [w7_e, if_pos hr, hb_x h he]; exact w7_h1 ..
-- 8 Law.coins
theorem w8_e (G : Glb) (d : Nat) (a0 : Nat) (x1 : Int32) (a2 : Nat) (σ : St) : call G (d + 1) 8 [.ref a0, .int x1, .ref a2] σ = (if rcv σ a0 5 = true then hb G (d + 1) 8 4 (call G d 54 [.ref a0, .int x1] σ) (retT 54) (nulT 54) [some (.ref a0), some (.int x1), some (.ref a2), none] [.int 0, .ref a2] (fun st' s' => run G (d + 1) 8 7 [some (.ref a0), some (.int x1), some (.ref a2), none] st' s') else none) := (blkH_eq G 8 (nst [7]) 17 (d + 1) 0 _ [] σ).trans rfl
theorem w8_r (G : Glb) (d : Nat) (a0 : Nat) (x1 : Int32) (a2 : Nat) (v : Int32) (σ : St) : run G (d + 1) 8 7 [some (.ref a0), some (.int x1), some (.ref a2), none] [.int v, .int 0, .ref a2] σ = ((aW σ (fun t => t == .long) a2 0 (.long (v : Int32).toInt64)).bind fun s1 => some (.inl (some (.int 0)), s1)) := (blkH_eq G 8 (nst []) 17 (d + 1) 7 _ _ σ).trans rfl
theorem w8_h1 (G : Glb) (d : Nat) (a0 : Nat) (x1 : Int32) (a2 : Nat) (σ : St) : run G (d + 1) 8 13 [some (.ref a0), some (.int x1), some (.ref a2), none] [] σ = some (.inl (some (.int 1)), σ) := (blkH_eq G 8 (nst []) 17 (d + 1) 13 _ _ σ).trans rfl
theorem w8_v {G : Glb} {d : Nat} {a0 : Nat} {x1 : Int32} {a2 : Nat} {v : Int32} {σ σ' σ'' : St} (hr : rcv σ a0 5 = true) (h : call G d 54 [.ref a0, .int x1] σ = vI v σ') (hw : aW σ' (fun t => t == .long) a2 0 (.long v.toInt64) = some σ'') : call G (d + 1) 8 [.ref a0, .int x1, .ref a2] σ = vI 0 σ'' := by
  rw [w8_e, if_pos hr, hb_v h rfl, w8_r, hw]; rfl
theorem w8_x1 {G : Glb} {d : Nat} {a0 : Nat} {x1 : Int32} {a2 : Nat} {e : String} {σ σ' : St} (hr : rcv σ a0 5 = true) (h : call G d 54 [.ref a0, .int x1] σ = some (.inr e, σ')) (he : hnd 8 4 e = some (13, 3)) : call G (d + 1) 8 [.ref a0, .int x1, .ref a2] σ = vI 1 σ' := by
  rw [w8_e, if_pos hr, hb_x h he]; exact w8_h1 ..
-- 9 Law.isHired
theorem w9_e (G : Glb) (d : Nat) (a0 : Nat) (x1 : Int32) (a2 : Nat) (σ : St) : call G (d + 1) 9 [.ref a0, .int x1, .ref a2] σ = (if rcv σ a0 5 = true then hb G (d + 1) 9 4 (call G d 55 [.ref a0, .int x1] σ) (retT 55) (nulT 55) [some (.ref a0), some (.int x1), some (.ref a2), none] [.int 0, .ref a2] (fun st' s' => run G (d + 1) 9 7 [some (.ref a0), some (.int x1), some (.ref a2), none] st' s') else none) := (blkH_eq G 9 (nst [7]) 20 (d + 1) 0 _ [] σ).trans rfl
theorem w9_r (G : Glb) (d : Nat) (a0 : Nat) (x1 : Int32) (a2 : Nat) (v : Int32) (σ : St) : run G (d + 1) 9 7 [some (.ref a0), some (.int x1), some (.ref a2), none] [.int v, .int 0, .ref a2] σ = (if v = 0 then ((aW σ (fun t => t == .long) a2 0 (.long 0)).bind fun s1 => some (.inl (some (.int 0)), s1)) else ((aW σ (fun t => t == .long) a2 0 (.long 1)).bind fun s2 => some (.inl (some (.int 0)), s2))) := (blkH_eq G 9 (nst []) 20 (d + 1) 7 _ _ σ).trans rfl
theorem w9_h1 (G : Glb) (d : Nat) (a0 : Nat) (x1 : Int32) (a2 : Nat) (σ : St) : run G (d + 1) 9 20 [some (.ref a0), some (.int x1), some (.ref a2), none] [] σ = some (.inl (some (.int 1)), σ) := (blkH_eq G 9 (nst []) 20 (d + 1) 20 _ _ σ).trans rfl
theorem w9_v {G : Glb} {d : Nat} {a0 : Nat} {x1 : Int32} {a2 : Nat} {v : Int32} {σ σ' σ'' : St} (hr : rcv σ a0 5 = true) (h : call G d 55 [.ref a0, .int x1] σ = vI v σ') (hw : aW σ' (fun t => t == .long) a2 0 (.long (if v = 0 then 0 else 1)) = some σ'') : call G (d + 1) 9 [.ref a0, .int x1, .ref a2] σ = vI 0 σ'' := by
  rw [w9_e, if_pos hr, hb_v h rfl, w9_r]
  by_cases hv : v = 0
  · rw [if_pos hv] at hw ⊢
    rw [hw]; rfl
  · rw [if_neg hv] at hw ⊢
    rw [hw]; rfl
theorem w9_x1 {G : Glb} {d : Nat} {a0 : Nat} {x1 : Int32} {a2 : Nat} {e : String} {σ σ' : St} (hr : rcv σ a0 5 = true) (h : call G d 55 [.ref a0, .int x1] σ = some (.inr e, σ')) (he : hnd 9 4 e = some (20, 3)) : call G (d + 1) 9 [.ref a0, .int x1, .ref a2] σ = vI 1 σ' := by
  rw [w9_e, if_pos hr, hb_x h he]; exact w9_h1 ..
-- 10 Law.postOf
theorem w10_e (G : Glb) (d : Nat) (a0 : Nat) (x1 : Int32) (a2 : Nat) (σ : St) : call G (d + 1) 10 [.ref a0, .int x1, .ref a2] σ = (if rcv σ a0 5 = true then hb G (d + 1) 10 4 (call G d 56 [.ref a0, .int x1] σ) (retT 56) (nulT 56) [some (.ref a0), some (.int x1), some (.ref a2), none] [.int 0, .ref a2] (fun st' s' => run G (d + 1) 10 7 [some (.ref a0), some (.int x1), some (.ref a2), none] st' s') else none) := (blkH_eq G 10 (nst [7]) 17 (d + 1) 0 _ [] σ).trans rfl
theorem w10_r (G : Glb) (d : Nat) (a0 : Nat) (x1 : Int32) (a2 : Nat) (v : Int32) (σ : St) : run G (d + 1) 10 7 [some (.ref a0), some (.int x1), some (.ref a2), none] [.int v, .int 0, .ref a2] σ = ((aW σ (fun t => t == .long) a2 0 (.long (v : Int32).toInt64)).bind fun s1 => some (.inl (some (.int 0)), s1)) := (blkH_eq G 10 (nst []) 17 (d + 1) 7 _ _ σ).trans rfl
theorem w10_h1 (G : Glb) (d : Nat) (a0 : Nat) (x1 : Int32) (a2 : Nat) (σ : St) : run G (d + 1) 10 13 [some (.ref a0), some (.int x1), some (.ref a2), none] [] σ = some (.inl (some (.int 1)), σ) := (blkH_eq G 10 (nst []) 17 (d + 1) 13 _ _ σ).trans rfl
theorem w10_v {G : Glb} {d : Nat} {a0 : Nat} {x1 : Int32} {a2 : Nat} {v : Int32} {σ σ' σ'' : St} (hr : rcv σ a0 5 = true) (h : call G d 56 [.ref a0, .int x1] σ = vI v σ') (hw : aW σ' (fun t => t == .long) a2 0 (.long v.toInt64) = some σ'') : call G (d + 1) 10 [.ref a0, .int x1, .ref a2] σ = vI 0 σ'' := by
  rw [w10_e, if_pos hr, hb_v h rfl, w10_r, hw]; rfl
theorem w10_x1 {G : Glb} {d : Nat} {a0 : Nat} {x1 : Int32} {a2 : Nat} {e : String} {σ σ' : St} (hr : rcv σ a0 5 = true) (h : call G d 56 [.ref a0, .int x1] σ = some (.inr e, σ')) (he : hnd 10 4 e = some (13, 3)) : call G (d + 1) 10 [.ref a0, .int x1, .ref a2] σ = vI 1 σ' := by
  rw [w10_e, if_pos hr, hb_x h he]; exact w10_h1 ..
-- 11 Law.score
theorem w11_e (G : Glb) (d : Nat) (a0 : Nat) (x1 : Int32) (a2 : Nat) (σ : St) : call G (d + 1) 11 [.ref a0, .int x1, .ref a2] σ = (if rcv σ a0 5 = true then hb G (d + 1) 11 4 (call G d 57 [.ref a0, .int x1] σ) (retT 57) (nulT 57) [some (.ref a0), some (.int x1), some (.ref a2), none] [.int 0, .ref a2] (fun st' s' => run G (d + 1) 11 7 [some (.ref a0), some (.int x1), some (.ref a2), none] st' s') else none) := (blkH_eq G 11 (nst [7]) 17 (d + 1) 0 _ [] σ).trans rfl
theorem w11_r (G : Glb) (d : Nat) (a0 : Nat) (x1 : Int32) (a2 : Nat) (v : Int32) (σ : St) : run G (d + 1) 11 7 [some (.ref a0), some (.int x1), some (.ref a2), none] [.int v, .int 0, .ref a2] σ = ((aW σ (fun t => t == .long) a2 0 (.long (v : Int32).toInt64)).bind fun s1 => some (.inl (some (.int 0)), s1)) := (blkH_eq G 11 (nst []) 17 (d + 1) 7 _ _ σ).trans rfl
theorem w11_h1 (G : Glb) (d : Nat) (a0 : Nat) (x1 : Int32) (a2 : Nat) (σ : St) : run G (d + 1) 11 13 [some (.ref a0), some (.int x1), some (.ref a2), none] [] σ = some (.inl (some (.int 1)), σ) := (blkH_eq G 11 (nst []) 17 (d + 1) 13 _ _ σ).trans rfl
theorem w11_v {G : Glb} {d : Nat} {a0 : Nat} {x1 : Int32} {a2 : Nat} {v : Int32} {σ σ' σ'' : St} (hr : rcv σ a0 5 = true) (h : call G d 57 [.ref a0, .int x1] σ = vI v σ') (hw : aW σ' (fun t => t == .long) a2 0 (.long v.toInt64) = some σ'') : call G (d + 1) 11 [.ref a0, .int x1, .ref a2] σ = vI 0 σ'' := by
  rw [w11_e, if_pos hr, hb_v h rfl, w11_r, hw]; rfl
theorem w11_x1 {G : Glb} {d : Nat} {a0 : Nat} {x1 : Int32} {a2 : Nat} {e : String} {σ σ' : St} (hr : rcv σ a0 5 = true) (h : call G d 57 [.ref a0, .int x1] σ = some (.inr e, σ')) (he : hnd 11 4 e = some (13, 3)) : call G (d + 1) 11 [.ref a0, .int x1, .ref a2] σ = vI 1 σ' := by
  rw [w11_e, if_pos hr, hb_x h he]; exact w11_h1 ..
-- 12 Law.applicantByScore
theorem w12_e (G : Glb) (d : Nat) (a0 : Nat) (x1 : Int32) (a2 : Nat) (σ : St) : call G (d + 1) 12 [.ref a0, .int x1, .ref a2] σ = (if rcv σ a0 5 = true then hb G (d + 1) 12 4 (call G d 58 [.ref a0, .int x1] σ) (retT 58) (nulT 58) [some (.ref a0), some (.int x1), some (.ref a2), none] [.int 0, .ref a2] (fun st' s' => run G (d + 1) 12 7 [some (.ref a0), some (.int x1), some (.ref a2), none] st' s') else none) := (blkH_eq G 12 (nst [7]) 17 (d + 1) 0 _ [] σ).trans rfl
theorem w12_r (G : Glb) (d : Nat) (a0 : Nat) (x1 : Int32) (a2 : Nat) (v : Int32) (σ : St) : run G (d + 1) 12 7 [some (.ref a0), some (.int x1), some (.ref a2), none] [.int v, .int 0, .ref a2] σ = ((aW σ (fun t => t == .long) a2 0 (.long (v : Int32).toInt64)).bind fun s1 => some (.inl (some (.int 0)), s1)) := (blkH_eq G 12 (nst []) 17 (d + 1) 7 _ _ σ).trans rfl
theorem w12_h1 (G : Glb) (d : Nat) (a0 : Nat) (x1 : Int32) (a2 : Nat) (σ : St) : run G (d + 1) 12 13 [some (.ref a0), some (.int x1), some (.ref a2), none] [] σ = some (.inl (some (.int 1)), σ) := (blkH_eq G 12 (nst []) 17 (d + 1) 13 _ _ σ).trans rfl
theorem w12_v {G : Glb} {d : Nat} {a0 : Nat} {x1 : Int32} {a2 : Nat} {v : Int32} {σ σ' σ'' : St} (hr : rcv σ a0 5 = true) (h : call G d 58 [.ref a0, .int x1] σ = vI v σ') (hw : aW σ' (fun t => t == .long) a2 0 (.long v.toInt64) = some σ'') : call G (d + 1) 12 [.ref a0, .int x1, .ref a2] σ = vI 0 σ'' := by
  rw [w12_e, if_pos hr, hb_v h rfl, w12_r, hw]; rfl
theorem w12_x1 {G : Glb} {d : Nat} {a0 : Nat} {x1 : Int32} {a2 : Nat} {e : String} {σ σ' : St} (hr : rcv σ a0 5 = true) (h : call G d 58 [.ref a0, .int x1] σ = some (.inr e, σ')) (he : hnd 12 4 e = some (13, 3)) : call G (d + 1) 12 [.ref a0, .int x1, .ref a2] σ = vI 1 σ' := by
  rw [w12_e, if_pos hr, hb_x h he]; exact w12_h1 ..
-- 13 Law.addReference
theorem w13_e (G : Glb) (d : Nat) (a0 : Nat) (x1 : Int32) (x2 : Int32) (a3 : Nat) (σ : St) : call G (d + 1) 13 [.ref a0, .int x1, .int x2, .ref a3] σ = (if rcv σ a0 5 = true then hb G (d + 1) 13 5 (call G d 59 [.ref a0, .int x1, .int x2] σ) (retT 59) (nulT 59) [some (.ref a0), some (.int x1), some (.int x2), some (.ref a3), none] [.int 0, .ref a3] (fun st' s' => run G (d + 1) 13 8 [some (.ref a0), some (.int x1), some (.int x2), some (.ref a3), none] st' s') else none) := (blkH_eq G 13 (nst [8]) 24 (d + 1) 0 _ [] σ).trans rfl
theorem w13_r (G : Glb) (d : Nat) (a0 : Nat) (x1 : Int32) (x2 : Int32) (a3 : Nat) (v : Int32) (σ : St) : run G (d + 1) 13 8 [some (.ref a0), some (.int x1), some (.int x2), some (.ref a3), none] [.int v, .int 0, .ref a3] σ = ((aW σ (fun t => t == .long) a3 0 (.long (v : Int32).toInt64)).bind fun s1 => some (.inl (some (.int 0)), s1)) := (blkH_eq G 13 (nst []) 24 (d + 1) 8 _ _ σ).trans rfl
theorem w13_h1 (G : Glb) (d : Nat) (a0 : Nat) (x1 : Int32) (x2 : Int32) (a3 : Nat) (σ : St) : run G (d + 1) 13 15 [some (.ref a0), some (.int x1), some (.int x2), some (.ref a3), none] [] σ = some (.inl (some (.int 1)), σ) := (blkH_eq G 13 (nst []) 24 (d + 1) 15 _ _ σ).trans rfl
theorem w13_h2 (G : Glb) (d : Nat) (a0 : Nat) (x1 : Int32) (x2 : Int32) (a3 : Nat) (σ : St) : run G (d + 1) 13 19 [some (.ref a0), some (.int x1), some (.int x2), some (.ref a3), none] [] σ = some (.inl (some (.int 2)), σ) := (blkH_eq G 13 (nst []) 24 (d + 1) 19 _ _ σ).trans rfl
theorem w13_h3 (G : Glb) (d : Nat) (a0 : Nat) (x1 : Int32) (x2 : Int32) (a3 : Nat) (σ : St) : run G (d + 1) 13 23 [some (.ref a0), some (.int x1), some (.int x2), some (.ref a3), none] [] σ = some (.inl (some (.int 3)), σ) := (blkH_eq G 13 (nst []) 24 (d + 1) 23 _ _ σ).trans rfl
theorem w13_v {G : Glb} {d : Nat} {a0 : Nat} {x1 : Int32} {x2 : Int32} {a3 : Nat} {v : Int32} {σ σ' σ'' : St} (hr : rcv σ a0 5 = true) (h : call G d 59 [.ref a0, .int x1, .int x2] σ = vI v σ') (hw : aW σ' (fun t => t == .long) a3 0 (.long v.toInt64) = some σ'') : call G (d + 1) 13 [.ref a0, .int x1, .int x2, .ref a3] σ = vI 0 σ'' := by
  rw [w13_e, if_pos hr, hb_v h rfl, w13_r, hw]; rfl
theorem w13_x1 {G : Glb} {d : Nat} {a0 : Nat} {x1 : Int32} {x2 : Int32} {a3 : Nat} {e : String} {σ σ' : St} (hr : rcv σ a0 5 = true) (h : call G d 59 [.ref a0, .int x1, .int x2] σ = some (.inr e, σ')) (he : hnd 13 5 e = some (15, 4)) : call G (d + 1) 13 [.ref a0, .int x1, .int x2, .ref a3] σ = vI 1 σ' := by
  rw [w13_e, if_pos hr, hb_x h he]; exact w13_h1 ..
theorem w13_x2 {G : Glb} {d : Nat} {a0 : Nat} {x1 : Int32} {x2 : Int32} {a3 : Nat} {e : String} {σ σ' : St} (hr : rcv σ a0 5 = true) (h : call G d 59 [.ref a0, .int x1, .int x2] σ = some (.inr e, σ')) (he : hnd 13 5 e = some (19, 4)) : call G (d + 1) 13 [.ref a0, .int x1, .int x2, .ref a3] σ = vI 2 σ' := by
  rw [w13_e, if_pos hr, hb_x h he]; exact w13_h2 ..
theorem w13_x3 {G : Glb} {d : Nat} {a0 : Nat} {x1 : Int32} {x2 : Int32} {a3 : Nat} {e : String} {σ σ' : St} (hr : rcv σ a0 5 = true) (h : call G d 59 [.ref a0, .int x1, .int x2] σ = some (.inr e, σ')) (he : hnd 13 5 e = some (23, 4)) : call G (d + 1) 13 [.ref a0, .int x1, .int x2, .ref a3] σ = vI 3 σ' := by
  rw [w13_e, if_pos hr, hb_x h he]; exact w13_h3 ..
-- 14 Law.removeReference
theorem w14_e (G : Glb) (d : Nat) (a0 : Nat) (x1 : Int32) (x2 : Int32) (a3 : Nat) (σ : St) : call G (d + 1) 14 [.ref a0, .int x1, .int x2, .ref a3] σ = (if rcv σ a0 5 = true then hb G (d + 1) 14 5 (call G d 60 [.ref a0, .int x1, .int x2] σ) (retT 60) (nulT 60) [some (.ref a0), some (.int x1), some (.int x2), some (.ref a3), none] [.int 0, .ref a3] (fun st' s' => run G (d + 1) 14 8 [some (.ref a0), some (.int x1), some (.int x2), some (.ref a3), none] st' s') else none) := (blkH_eq G 14 (nst [8]) 18 (d + 1) 0 _ [] σ).trans rfl
theorem w14_r (G : Glb) (d : Nat) (a0 : Nat) (x1 : Int32) (x2 : Int32) (a3 : Nat) (v : Int32) (σ : St) : run G (d + 1) 14 8 [some (.ref a0), some (.int x1), some (.int x2), some (.ref a3), none] [.int v, .int 0, .ref a3] σ = ((aW σ (fun t => t == .long) a3 0 (.long (v : Int32).toInt64)).bind fun s1 => some (.inl (some (.int 0)), s1)) := (blkH_eq G 14 (nst []) 18 (d + 1) 8 _ _ σ).trans rfl
theorem w14_h1 (G : Glb) (d : Nat) (a0 : Nat) (x1 : Int32) (x2 : Int32) (a3 : Nat) (σ : St) : run G (d + 1) 14 15 [some (.ref a0), some (.int x1), some (.int x2), some (.ref a3), none] [] σ = some (.inl (some (.int 1)), σ) := (blkH_eq G 14 (nst []) 18 (d + 1) 15 _ _ σ).trans rfl
theorem w14_v {G : Glb} {d : Nat} {a0 : Nat} {x1 : Int32} {x2 : Int32} {a3 : Nat} {v : Int32} {σ σ' σ'' : St} (hr : rcv σ a0 5 = true) (h : call G d 60 [.ref a0, .int x1, .int x2] σ = vI v σ') (hw : aW σ' (fun t => t == .long) a3 0 (.long v.toInt64) = some σ'') : call G (d + 1) 14 [.ref a0, .int x1, .int x2, .ref a3] σ = vI 0 σ'' := by
  rw [w14_e, if_pos hr, hb_v h rfl, w14_r, hw]; rfl
theorem w14_x1 {G : Glb} {d : Nat} {a0 : Nat} {x1 : Int32} {x2 : Int32} {a3 : Nat} {e : String} {σ σ' : St} (hr : rcv σ a0 5 = true) (h : call G d 60 [.ref a0, .int x1, .int x2] σ = some (.inr e, σ')) (he : hnd 14 5 e = some (15, 4)) : call G (d + 1) 14 [.ref a0, .int x1, .int x2, .ref a3] σ = vI 1 σ' := by
  rw [w14_e, if_pos hr, hb_x h he]; exact w14_h1 ..
-- 15 Law.hasReference
theorem w15_e (G : Glb) (d : Nat) (a0 : Nat) (x1 : Int32) (x2 : Int32) (a3 : Nat) (σ : St) : call G (d + 1) 15 [.ref a0, .int x1, .int x2, .ref a3] σ = (if rcv σ a0 5 = true then hb G (d + 1) 15 5 (call G d 61 [.ref a0, .int x1, .int x2] σ) (retT 61) (nulT 61) [some (.ref a0), some (.int x1), some (.int x2), some (.ref a3), none] [.int 0, .ref a3] (fun st' s' => run G (d + 1) 15 8 [some (.ref a0), some (.int x1), some (.int x2), some (.ref a3), none] st' s') else none) := (blkH_eq G 15 (nst [8]) 21 (d + 1) 0 _ [] σ).trans rfl
theorem w15_r (G : Glb) (d : Nat) (a0 : Nat) (x1 : Int32) (x2 : Int32) (a3 : Nat) (v : Int32) (σ : St) : run G (d + 1) 15 8 [some (.ref a0), some (.int x1), some (.int x2), some (.ref a3), none] [.int v, .int 0, .ref a3] σ = (if v = 0 then ((aW σ (fun t => t == .long) a3 0 (.long 0)).bind fun s1 => some (.inl (some (.int 0)), s1)) else ((aW σ (fun t => t == .long) a3 0 (.long 1)).bind fun s2 => some (.inl (some (.int 0)), s2))) := (blkH_eq G 15 (nst []) 21 (d + 1) 8 _ _ σ).trans rfl
theorem w15_h1 (G : Glb) (d : Nat) (a0 : Nat) (x1 : Int32) (x2 : Int32) (a3 : Nat) (σ : St) : run G (d + 1) 15 22 [some (.ref a0), some (.int x1), some (.int x2), some (.ref a3), none] [] σ = some (.inl (some (.int 1)), σ) := (blkH_eq G 15 (nst []) 21 (d + 1) 22 _ _ σ).trans rfl
theorem w15_v {G : Glb} {d : Nat} {a0 : Nat} {x1 : Int32} {x2 : Int32} {a3 : Nat} {v : Int32} {σ σ' σ'' : St} (hr : rcv σ a0 5 = true) (h : call G d 61 [.ref a0, .int x1, .int x2] σ = vI v σ') (hw : aW σ' (fun t => t == .long) a3 0 (.long (if v = 0 then 0 else 1)) = some σ'') : call G (d + 1) 15 [.ref a0, .int x1, .int x2, .ref a3] σ = vI 0 σ'' := by
  rw [w15_e, if_pos hr, hb_v h rfl, w15_r]
  by_cases hv : v = 0
  · rw [if_pos hv] at hw ⊢
    rw [hw]; rfl
  · rw [if_neg hv] at hw ⊢
    rw [hw]; rfl
theorem w15_x1 {G : Glb} {d : Nat} {a0 : Nat} {x1 : Int32} {x2 : Int32} {a3 : Nat} {e : String} {σ σ' : St} (hr : rcv σ a0 5 = true) (h : call G d 61 [.ref a0, .int x1, .int x2] σ = some (.inr e, σ')) (he : hnd 15 5 e = some (22, 4)) : call G (d + 1) 15 [.ref a0, .int x1, .int x2, .ref a3] σ = vI 1 σ' := by
  rw [w15_e, if_pos hr, hb_x h he]; exact w15_h1 ..
-- 16 Law.referencesFor
theorem w16_e (G : Glb) (d : Nat) (a0 : Nat) (x1 : Int32) (a2 : Nat) (σ : St) : call G (d + 1) 16 [.ref a0, .int x1, .ref a2] σ = (if rcv σ a0 5 = true then hb G (d + 1) 16 4 (call G d 62 [.ref a0, .int x1] σ) (retT 62) (nulT 62) [some (.ref a0), some (.int x1), some (.ref a2), none] [.int 0, .ref a2] (fun st' s' => run G (d + 1) 16 7 [some (.ref a0), some (.int x1), some (.ref a2), none] st' s') else none) := (blkH_eq G 16 (nst [7]) 17 (d + 1) 0 _ [] σ).trans rfl
theorem w16_r (G : Glb) (d : Nat) (a0 : Nat) (x1 : Int32) (a2 : Nat) (v : Int32) (σ : St) : run G (d + 1) 16 7 [some (.ref a0), some (.int x1), some (.ref a2), none] [.int v, .int 0, .ref a2] σ = ((aW σ (fun t => t == .long) a2 0 (.long (v : Int32).toInt64)).bind fun s1 => some (.inl (some (.int 0)), s1)) := (blkH_eq G 16 (nst []) 17 (d + 1) 7 _ _ σ).trans rfl
theorem w16_h1 (G : Glb) (d : Nat) (a0 : Nat) (x1 : Int32) (a2 : Nat) (σ : St) : run G (d + 1) 16 13 [some (.ref a0), some (.int x1), some (.ref a2), none] [] σ = some (.inl (some (.int 1)), σ) := (blkH_eq G 16 (nst []) 17 (d + 1) 13 _ _ σ).trans rfl
theorem w16_v {G : Glb} {d : Nat} {a0 : Nat} {x1 : Int32} {a2 : Nat} {v : Int32} {σ σ' σ'' : St} (hr : rcv σ a0 5 = true) (h : call G d 62 [.ref a0, .int x1] σ = vI v σ') (hw : aW σ' (fun t => t == .long) a2 0 (.long v.toInt64) = some σ'') : call G (d + 1) 16 [.ref a0, .int x1, .ref a2] σ = vI 0 σ'' := by
  rw [w16_e, if_pos hr, hb_v h rfl, w16_r, hw]; rfl
theorem w16_x1 {G : Glb} {d : Nat} {a0 : Nat} {x1 : Int32} {a2 : Nat} {e : String} {σ σ' : St} (hr : rcv σ a0 5 = true) (h : call G d 62 [.ref a0, .int x1] σ = some (.inr e, σ')) (he : hnd 16 4 e = some (13, 3)) : call G (d + 1) 16 [.ref a0, .int x1, .ref a2] σ = vI 1 σ' := by
  rw [w16_e, if_pos hr, hb_x h he]; exact w16_h1 ..
-- 17 Law.referencesFrom
theorem w17_e (G : Glb) (d : Nat) (a0 : Nat) (x1 : Int32) (a2 : Nat) (σ : St) : call G (d + 1) 17 [.ref a0, .int x1, .ref a2] σ = (if rcv σ a0 5 = true then hb G (d + 1) 17 4 (call G d 63 [.ref a0, .int x1] σ) (retT 63) (nulT 63) [some (.ref a0), some (.int x1), some (.ref a2), none] [.int 0, .ref a2] (fun st' s' => run G (d + 1) 17 7 [some (.ref a0), some (.int x1), some (.ref a2), none] st' s') else none) := (blkH_eq G 17 (nst [7]) 17 (d + 1) 0 _ [] σ).trans rfl
theorem w17_r (G : Glb) (d : Nat) (a0 : Nat) (x1 : Int32) (a2 : Nat) (v : Int32) (σ : St) : run G (d + 1) 17 7 [some (.ref a0), some (.int x1), some (.ref a2), none] [.int v, .int 0, .ref a2] σ = ((aW σ (fun t => t == .long) a2 0 (.long (v : Int32).toInt64)).bind fun s1 => some (.inl (some (.int 0)), s1)) := (blkH_eq G 17 (nst []) 17 (d + 1) 7 _ _ σ).trans rfl
theorem w17_h1 (G : Glb) (d : Nat) (a0 : Nat) (x1 : Int32) (a2 : Nat) (σ : St) : run G (d + 1) 17 13 [some (.ref a0), some (.int x1), some (.ref a2), none] [] σ = some (.inl (some (.int 1)), σ) := (blkH_eq G 17 (nst []) 17 (d + 1) 13 _ _ σ).trans rfl
theorem w17_v {G : Glb} {d : Nat} {a0 : Nat} {x1 : Int32} {a2 : Nat} {v : Int32} {σ σ' σ'' : St} (hr : rcv σ a0 5 = true) (h : call G d 63 [.ref a0, .int x1] σ = vI v σ') (hw : aW σ' (fun t => t == .long) a2 0 (.long v.toInt64) = some σ'') : call G (d + 1) 17 [.ref a0, .int x1, .ref a2] σ = vI 0 σ'' := by
  rw [w17_e, if_pos hr, hb_v h rfl, w17_r, hw]; rfl
theorem w17_x1 {G : Glb} {d : Nat} {a0 : Nat} {x1 : Int32} {a2 : Nat} {e : String} {σ σ' : St} (hr : rcv σ a0 5 = true) (h : call G d 63 [.ref a0, .int x1] σ = some (.inr e, σ')) (he : hnd 17 4 e = some (13, 3)) : call G (d + 1) 17 [.ref a0, .int x1, .ref a2] σ = vI 1 σ' := by
  rw [w17_e, if_pos hr, hb_x h he]; exact w17_h1 ..
-- 18 Law.openPost
theorem w18_e (G : Glb) (d : Nat) (a0 : Nat) (x1 : Int32) (x2 : Int32) (x3 : Int32) (x4 : Int32) (a5 : Nat) (σ : St) : call G (d + 1) 18 [.ref a0, .int x1, .int x2, .int x3, .int x4, .ref a5] σ = (if rcv σ a0 5 = true then hb G (d + 1) 18 9 (call G d 64 [.ref a0, .int x1, .int x2, .int x3, .int x4] σ) (retT 64) (nulT 64) [some (.ref a0), some (.int x1), some (.int x2), some (.int x3), some (.int x4), some (.ref a5), none] [.int 0, .ref a5] (fun st' s' => run G (d + 1) 18 12 [some (.ref a0), some (.int x1), some (.int x2), some (.int x3), some (.int x4), some (.ref a5), none] st' s') else none) := (blkH_eq G 18 (nst [12]) 23 (d + 1) 0 _ [] σ).trans rfl
theorem w18_r (G : Glb) (d : Nat) (a0 : Nat) (x1 : Int32) (x2 : Int32) (x3 : Int32) (x4 : Int32) (a5 : Nat) (v : Int32) (σ : St) : run G (d + 1) 18 12 [some (.ref a0), some (.int x1), some (.int x2), some (.int x3), some (.int x4), some (.ref a5), none] [.int v, .int 0, .ref a5] σ = ((aW σ (fun t => t == .long) a5 0 (.long (v : Int32).toInt64)).bind fun s1 => some (.inl (some (.int 0)), s1)) := (blkH_eq G 18 (nst []) 23 (d + 1) 12 _ _ σ).trans rfl
theorem w18_h1 (G : Glb) (d : Nat) (a0 : Nat) (x1 : Int32) (x2 : Int32) (x3 : Int32) (x4 : Int32) (a5 : Nat) (σ : St) : run G (d + 1) 18 19 [some (.ref a0), some (.int x1), some (.int x2), some (.int x3), some (.int x4), some (.ref a5), none] [] σ = some (.inl (some (.int 1)), σ) := (blkH_eq G 18 (nst []) 23 (d + 1) 19 _ _ σ).trans rfl
theorem w18_h2 (G : Glb) (d : Nat) (a0 : Nat) (x1 : Int32) (x2 : Int32) (x3 : Int32) (x4 : Int32) (a5 : Nat) (σ : St) : run G (d + 1) 18 23 [some (.ref a0), some (.int x1), some (.int x2), some (.int x3), some (.int x4), some (.ref a5), none] [] σ = some (.inl (some (.int 2)), σ) := (blkH_eq G 18 (nst []) 23 (d + 1) 23 _ _ σ).trans rfl
theorem w18_v {G : Glb} {d : Nat} {a0 : Nat} {x1 : Int32} {x2 : Int32} {x3 : Int32} {x4 : Int32} {a5 : Nat} {v : Int32} {σ σ' σ'' : St} (hr : rcv σ a0 5 = true) (h : call G d 64 [.ref a0, .int x1, .int x2, .int x3, .int x4] σ = vI v σ') (hw : aW σ' (fun t => t == .long) a5 0 (.long v.toInt64) = some σ'') : call G (d + 1) 18 [.ref a0, .int x1, .int x2, .int x3, .int x4, .ref a5] σ = vI 0 σ'' := by
  rw [w18_e, if_pos hr, hb_v h rfl, w18_r, hw]; rfl
theorem w18_x1 {G : Glb} {d : Nat} {a0 : Nat} {x1 : Int32} {x2 : Int32} {x3 : Int32} {x4 : Int32} {a5 : Nat} {e : String} {σ σ' : St} (hr : rcv σ a0 5 = true) (h : call G d 64 [.ref a0, .int x1, .int x2, .int x3, .int x4] σ = some (.inr e, σ')) (he : hnd 18 9 e = some (19, 6)) : call G (d + 1) 18 [.ref a0, .int x1, .int x2, .int x3, .int x4, .ref a5] σ = vI 1 σ' := by
  rw [w18_e, if_pos hr, hb_x h he]; exact w18_h1 ..
theorem w18_x2 {G : Glb} {d : Nat} {a0 : Nat} {x1 : Int32} {x2 : Int32} {x3 : Int32} {x4 : Int32} {a5 : Nat} {e : String} {σ σ' : St} (hr : rcv σ a0 5 = true) (h : call G d 64 [.ref a0, .int x1, .int x2, .int x3, .int x4] σ = some (.inr e, σ')) (he : hnd 18 9 e = some (23, 6)) : call G (d + 1) 18 [.ref a0, .int x1, .int x2, .int x3, .int x4, .ref a5] σ = vI 2 σ' := by
  rw [w18_e, if_pos hr, hb_x h he]; exact w18_h2 ..
-- 19 Law.closePost
theorem w19_e (G : Glb) (d : Nat) (a0 : Nat) (x1 : Int32) (a2 : Nat) (σ : St) : call G (d + 1) 19 [.ref a0, .int x1, .ref a2] σ = (if rcv σ a0 5 = true then hb G (d + 1) 19 4 (call G d 65 [.ref a0, .int x1] σ) (retT 65) (nulT 65) [some (.ref a0), some (.int x1), some (.ref a2), none] [.int 0, .ref a2] (fun st' s' => run G (d + 1) 19 7 [some (.ref a0), some (.int x1), some (.ref a2), none] st' s') else none) := (blkH_eq G 19 (nst [7]) 20 (d + 1) 0 _ [] σ).trans rfl
theorem w19_r (G : Glb) (d : Nat) (a0 : Nat) (x1 : Int32) (a2 : Nat) (v : Int32) (σ : St) : run G (d + 1) 19 7 [some (.ref a0), some (.int x1), some (.ref a2), none] [.int v, .int 0, .ref a2] σ = (if v = 0 then ((aW σ (fun t => t == .long) a2 0 (.long 0)).bind fun s1 => some (.inl (some (.int 0)), s1)) else ((aW σ (fun t => t == .long) a2 0 (.long 1)).bind fun s2 => some (.inl (some (.int 0)), s2))) := (blkH_eq G 19 (nst []) 20 (d + 1) 7 _ _ σ).trans rfl
theorem w19_h1 (G : Glb) (d : Nat) (a0 : Nat) (x1 : Int32) (a2 : Nat) (σ : St) : run G (d + 1) 19 20 [some (.ref a0), some (.int x1), some (.ref a2), none] [] σ = some (.inl (some (.int 1)), σ) := (blkH_eq G 19 (nst []) 20 (d + 1) 20 _ _ σ).trans rfl
theorem w19_v {G : Glb} {d : Nat} {a0 : Nat} {x1 : Int32} {a2 : Nat} {v : Int32} {σ σ' σ'' : St} (hr : rcv σ a0 5 = true) (h : call G d 65 [.ref a0, .int x1] σ = vI v σ') (hw : aW σ' (fun t => t == .long) a2 0 (.long (if v = 0 then 0 else 1)) = some σ'') : call G (d + 1) 19 [.ref a0, .int x1, .ref a2] σ = vI 0 σ'' := by
  rw [w19_e, if_pos hr, hb_v h rfl, w19_r]
  by_cases hv : v = 0
  · rw [if_pos hv] at hw ⊢
    rw [hw]; rfl
  · rw [if_neg hv] at hw ⊢
    rw [hw]; rfl
theorem w19_x1 {G : Glb} {d : Nat} {a0 : Nat} {x1 : Int32} {a2 : Nat} {e : String} {σ σ' : St} (hr : rcv σ a0 5 = true) (h : call G d 65 [.ref a0, .int x1] σ = some (.inr e, σ')) (he : hnd 19 4 e = some (20, 3)) : call G (d + 1) 19 [.ref a0, .int x1, .ref a2] σ = vI 1 σ' := by
  rw [w19_e, if_pos hr, hb_x h he]; exact w19_h1 ..
-- 20 Law.requiredShape
theorem w20_e (G : Glb) (d : Nat) (a0 : Nat) (x1 : Int32) (a2 : Nat) (σ : St) : call G (d + 1) 20 [.ref a0, .int x1, .ref a2] σ = (if rcv σ a0 5 = true then hb G (d + 1) 20 4 (call G d 68 [.ref a0, .int x1] σ) (retT 68) (nulT 68) [some (.ref a0), some (.int x1), some (.ref a2), none] [.int 0, .ref a2] (fun st' s' => run G (d + 1) 20 7 [some (.ref a0), some (.int x1), some (.ref a2), none] st' s') else none) := (blkH_eq G 20 (nst [7]) 17 (d + 1) 0 _ [] σ).trans rfl
theorem w20_r (G : Glb) (d : Nat) (a0 : Nat) (x1 : Int32) (a2 : Nat) (v : Int32) (σ : St) : run G (d + 1) 20 7 [some (.ref a0), some (.int x1), some (.ref a2), none] [.int v, .int 0, .ref a2] σ = ((aW σ (fun t => t == .long) a2 0 (.long (v : Int32).toInt64)).bind fun s1 => some (.inl (some (.int 0)), s1)) := (blkH_eq G 20 (nst []) 17 (d + 1) 7 _ _ σ).trans rfl
theorem w20_h1 (G : Glb) (d : Nat) (a0 : Nat) (x1 : Int32) (a2 : Nat) (σ : St) : run G (d + 1) 20 13 [some (.ref a0), some (.int x1), some (.ref a2), none] [] σ = some (.inl (some (.int 1)), σ) := (blkH_eq G 20 (nst []) 17 (d + 1) 13 _ _ σ).trans rfl
theorem w20_v {G : Glb} {d : Nat} {a0 : Nat} {x1 : Int32} {a2 : Nat} {v : Int32} {σ σ' σ'' : St} (hr : rcv σ a0 5 = true) (h : call G d 68 [.ref a0, .int x1] σ = vI v σ') (hw : aW σ' (fun t => t == .long) a2 0 (.long v.toInt64) = some σ'') : call G (d + 1) 20 [.ref a0, .int x1, .ref a2] σ = vI 0 σ'' := by
  rw [w20_e, if_pos hr, hb_v h rfl, w20_r, hw]; rfl
theorem w20_x1 {G : Glb} {d : Nat} {a0 : Nat} {x1 : Int32} {a2 : Nat} {e : String} {σ σ' : St} (hr : rcv σ a0 5 = true) (h : call G d 68 [.ref a0, .int x1] σ = some (.inr e, σ')) (he : hnd 20 4 e = some (13, 3)) : call G (d + 1) 20 [.ref a0, .int x1, .ref a2] σ = vI 1 σ' := by
  rw [w20_e, if_pos hr, hb_x h he]; exact w20_h1 ..
-- 21 Law.lowestWhiteness
theorem w21_e (G : Glb) (d : Nat) (a0 : Nat) (x1 : Int32) (a2 : Nat) (σ : St) : call G (d + 1) 21 [.ref a0, .int x1, .ref a2] σ = (if rcv σ a0 5 = true then hb G (d + 1) 21 4 (call G d 69 [.ref a0, .int x1] σ) (retT 69) (nulT 69) [some (.ref a0), some (.int x1), some (.ref a2), none] [.int 0, .ref a2] (fun st' s' => run G (d + 1) 21 7 [some (.ref a0), some (.int x1), some (.ref a2), none] st' s') else none) := (blkH_eq G 21 (nst [7]) 17 (d + 1) 0 _ [] σ).trans rfl
theorem w21_r (G : Glb) (d : Nat) (a0 : Nat) (x1 : Int32) (a2 : Nat) (v : Int32) (σ : St) : run G (d + 1) 21 7 [some (.ref a0), some (.int x1), some (.ref a2), none] [.int v, .int 0, .ref a2] σ = ((aW σ (fun t => t == .long) a2 0 (.long (v : Int32).toInt64)).bind fun s1 => some (.inl (some (.int 0)), s1)) := (blkH_eq G 21 (nst []) 17 (d + 1) 7 _ _ σ).trans rfl
theorem w21_h1 (G : Glb) (d : Nat) (a0 : Nat) (x1 : Int32) (a2 : Nat) (σ : St) : run G (d + 1) 21 13 [some (.ref a0), some (.int x1), some (.ref a2), none] [] σ = some (.inl (some (.int 1)), σ) := (blkH_eq G 21 (nst []) 17 (d + 1) 13 _ _ σ).trans rfl
theorem w21_v {G : Glb} {d : Nat} {a0 : Nat} {x1 : Int32} {a2 : Nat} {v : Int32} {σ σ' σ'' : St} (hr : rcv σ a0 5 = true) (h : call G d 69 [.ref a0, .int x1] σ = vI v σ') (hw : aW σ' (fun t => t == .long) a2 0 (.long v.toInt64) = some σ'') : call G (d + 1) 21 [.ref a0, .int x1, .ref a2] σ = vI 0 σ'' := by
  rw [w21_e, if_pos hr, hb_v h rfl, w21_r, hw]; rfl
theorem w21_x1 {G : Glb} {d : Nat} {a0 : Nat} {x1 : Int32} {a2 : Nat} {e : String} {σ σ' : St} (hr : rcv σ a0 5 = true) (h : call G d 69 [.ref a0, .int x1] σ = some (.inr e, σ')) (he : hnd 21 4 e = some (13, 3)) : call G (d + 1) 21 [.ref a0, .int x1, .ref a2] σ = vI 1 σ' := by
  rw [w21_e, if_pos hr, hb_x h he]; exact w21_h1 ..
-- 22 Law.highestRain
theorem w22_e (G : Glb) (d : Nat) (a0 : Nat) (x1 : Int32) (a2 : Nat) (σ : St) : call G (d + 1) 22 [.ref a0, .int x1, .ref a2] σ = (if rcv σ a0 5 = true then hb G (d + 1) 22 4 (call G d 70 [.ref a0, .int x1] σ) (retT 70) (nulT 70) [some (.ref a0), some (.int x1), some (.ref a2), none] [.int 0, .ref a2] (fun st' s' => run G (d + 1) 22 7 [some (.ref a0), some (.int x1), some (.ref a2), none] st' s') else none) := (blkH_eq G 22 (nst [7]) 17 (d + 1) 0 _ [] σ).trans rfl
theorem w22_r (G : Glb) (d : Nat) (a0 : Nat) (x1 : Int32) (a2 : Nat) (v : Int32) (σ : St) : run G (d + 1) 22 7 [some (.ref a0), some (.int x1), some (.ref a2), none] [.int v, .int 0, .ref a2] σ = ((aW σ (fun t => t == .long) a2 0 (.long (v : Int32).toInt64)).bind fun s1 => some (.inl (some (.int 0)), s1)) := (blkH_eq G 22 (nst []) 17 (d + 1) 7 _ _ σ).trans rfl
theorem w22_h1 (G : Glb) (d : Nat) (a0 : Nat) (x1 : Int32) (a2 : Nat) (σ : St) : run G (d + 1) 22 13 [some (.ref a0), some (.int x1), some (.ref a2), none] [] σ = some (.inl (some (.int 1)), σ) := (blkH_eq G 22 (nst []) 17 (d + 1) 13 _ _ σ).trans rfl
theorem w22_v {G : Glb} {d : Nat} {a0 : Nat} {x1 : Int32} {a2 : Nat} {v : Int32} {σ σ' σ'' : St} (hr : rcv σ a0 5 = true) (h : call G d 70 [.ref a0, .int x1] σ = vI v σ') (hw : aW σ' (fun t => t == .long) a2 0 (.long v.toInt64) = some σ'') : call G (d + 1) 22 [.ref a0, .int x1, .ref a2] σ = vI 0 σ'' := by
  rw [w22_e, if_pos hr, hb_v h rfl, w22_r, hw]; rfl
theorem w22_x1 {G : Glb} {d : Nat} {a0 : Nat} {x1 : Int32} {a2 : Nat} {e : String} {σ σ' : St} (hr : rcv σ a0 5 = true) (h : call G d 70 [.ref a0, .int x1] σ = some (.inr e, σ')) (he : hnd 22 4 e = some (13, 3)) : call G (d + 1) 22 [.ref a0, .int x1, .ref a2] σ = vI 1 σ' := by
  rw [w22_e, if_pos hr, hb_x h he]; exact w22_h1 ..
-- 23 Law.wage
theorem w23_e (G : Glb) (d : Nat) (a0 : Nat) (x1 : Int32) (a2 : Nat) (σ : St) : call G (d + 1) 23 [.ref a0, .int x1, .ref a2] σ = (if rcv σ a0 5 = true then hb G (d + 1) 23 4 (call G d 71 [.ref a0, .int x1] σ) (retT 71) (nulT 71) [some (.ref a0), some (.int x1), some (.ref a2), none] [.int 0, .ref a2] (fun st' s' => run G (d + 1) 23 7 [some (.ref a0), some (.int x1), some (.ref a2), none] st' s') else none) := (blkH_eq G 23 (nst [7]) 17 (d + 1) 0 _ [] σ).trans rfl
theorem w23_r (G : Glb) (d : Nat) (a0 : Nat) (x1 : Int32) (a2 : Nat) (v : Int32) (σ : St) : run G (d + 1) 23 7 [some (.ref a0), some (.int x1), some (.ref a2), none] [.int v, .int 0, .ref a2] σ = ((aW σ (fun t => t == .long) a2 0 (.long (v : Int32).toInt64)).bind fun s1 => some (.inl (some (.int 0)), s1)) := (blkH_eq G 23 (nst []) 17 (d + 1) 7 _ _ σ).trans rfl
theorem w23_h1 (G : Glb) (d : Nat) (a0 : Nat) (x1 : Int32) (a2 : Nat) (σ : St) : run G (d + 1) 23 13 [some (.ref a0), some (.int x1), some (.ref a2), none] [] σ = some (.inl (some (.int 1)), σ) := (blkH_eq G 23 (nst []) 17 (d + 1) 13 _ _ σ).trans rfl
theorem w23_v {G : Glb} {d : Nat} {a0 : Nat} {x1 : Int32} {a2 : Nat} {v : Int32} {σ σ' σ'' : St} (hr : rcv σ a0 5 = true) (h : call G d 71 [.ref a0, .int x1] σ = vI v σ') (hw : aW σ' (fun t => t == .long) a2 0 (.long v.toInt64) = some σ'') : call G (d + 1) 23 [.ref a0, .int x1, .ref a2] σ = vI 0 σ'' := by
  rw [w23_e, if_pos hr, hb_v h rfl, w23_r, hw]; rfl
theorem w23_x1 {G : Glb} {d : Nat} {a0 : Nat} {x1 : Int32} {a2 : Nat} {e : String} {σ σ' : St} (hr : rcv σ a0 5 = true) (h : call G d 71 [.ref a0, .int x1] σ = some (.inr e, σ')) (he : hnd 23 4 e = some (13, 3)) : call G (d + 1) 23 [.ref a0, .int x1, .ref a2] σ = vI 1 σ' := by
  rw [w23_e, if_pos hr, hb_x h he]; exact w23_h1 ..
-- 24 Law.filledBy
theorem w24_e (G : Glb) (d : Nat) (a0 : Nat) (x1 : Int32) (a2 : Nat) (σ : St) : call G (d + 1) 24 [.ref a0, .int x1, .ref a2] σ = (if rcv σ a0 5 = true then hb G (d + 1) 24 4 (call G d 72 [.ref a0, .int x1] σ) (retT 72) (nulT 72) [some (.ref a0), some (.int x1), some (.ref a2), none] [.int 0, .ref a2] (fun st' s' => run G (d + 1) 24 7 [some (.ref a0), some (.int x1), some (.ref a2), none] st' s') else none) := (blkH_eq G 24 (nst [7]) 20 (d + 1) 0 _ [] σ).trans rfl
theorem w24_r (G : Glb) (d : Nat) (a0 : Nat) (x1 : Int32) (a2 : Nat) (v : Int32) (σ : St) : run G (d + 1) 24 7 [some (.ref a0), some (.int x1), some (.ref a2), none] [.int v, .int 0, .ref a2] σ = ((aW σ (fun t => t == .long) a2 0 (.long (v : Int32).toInt64)).bind fun s1 => some (.inl (some (.int 0)), s1)) := (blkH_eq G 24 (nst []) 20 (d + 1) 7 _ _ σ).trans rfl
theorem w24_h1 (G : Glb) (d : Nat) (a0 : Nat) (x1 : Int32) (a2 : Nat) (σ : St) : run G (d + 1) 24 13 [some (.ref a0), some (.int x1), some (.ref a2), none] [] σ = some (.inl (some (.int 1)), σ) := (blkH_eq G 24 (nst []) 20 (d + 1) 13 _ _ σ).trans rfl
theorem w24_h2 (G : Glb) (d : Nat) (a0 : Nat) (x1 : Int32) (a2 : Nat) (σ : St) : run G (d + 1) 24 16 [some (.ref a0), some (.int x1), some (.ref a2), none] [] σ = some (.inl (some (.int 2)), σ) := (blkH_eq G 24 (nst []) 20 (d + 1) 16 _ _ σ).trans rfl
theorem w24_v {G : Glb} {d : Nat} {a0 : Nat} {x1 : Int32} {a2 : Nat} {v : Int32} {σ σ' σ'' : St} (hr : rcv σ a0 5 = true) (h : call G d 72 [.ref a0, .int x1] σ = vI v σ') (hw : aW σ' (fun t => t == .long) a2 0 (.long v.toInt64) = some σ'') : call G (d + 1) 24 [.ref a0, .int x1, .ref a2] σ = vI 0 σ'' := by
  rw [w24_e, if_pos hr, hb_v h rfl, w24_r, hw]; rfl
theorem w24_x1 {G : Glb} {d : Nat} {a0 : Nat} {x1 : Int32} {a2 : Nat} {e : String} {σ σ' : St} (hr : rcv σ a0 5 = true) (h : call G d 72 [.ref a0, .int x1] σ = some (.inr e, σ')) (he : hnd 24 4 e = some (13, 3)) : call G (d + 1) 24 [.ref a0, .int x1, .ref a2] σ = vI 1 σ' := by
  rw [w24_e, if_pos hr, hb_x h he]; exact w24_h1 ..
theorem w24_x2 {G : Glb} {d : Nat} {a0 : Nat} {x1 : Int32} {a2 : Nat} {e : String} {σ σ' : St} (hr : rcv σ a0 5 = true) (h : call G d 72 [.ref a0, .int x1] σ = some (.inr e, σ')) (he : hnd 24 4 e = some (16, 3)) : call G (d + 1) 24 [.ref a0, .int x1, .ref a2] σ = vI 2 σ' := by
  rw [w24_e, if_pos hr, hb_x h he]; exact w24_h2 ..
-- 25 Law.suits
theorem w25_e (G : Glb) (d : Nat) (a0 : Nat) (x1 : Int32) (x2 : Int32) (a3 : Nat) (σ : St) : call G (d + 1) 25 [.ref a0, .int x1, .int x2, .ref a3] σ = (if rcv σ a0 5 = true then hb G (d + 1) 25 5 (call G d 73 [.ref a0, .int x1, .int x2] σ) (retT 73) (nulT 73) [some (.ref a0), some (.int x1), some (.int x2), some (.ref a3), none] [.int 0, .ref a3] (fun st' s' => run G (d + 1) 25 8 [some (.ref a0), some (.int x1), some (.int x2), some (.ref a3), none] st' s') else none) := (blkH_eq G 25 (nst [8]) 24 (d + 1) 0 _ [] σ).trans rfl
theorem w25_r (G : Glb) (d : Nat) (a0 : Nat) (x1 : Int32) (x2 : Int32) (a3 : Nat) (v : Int32) (σ : St) : run G (d + 1) 25 8 [some (.ref a0), some (.int x1), some (.int x2), some (.ref a3), none] [.int v, .int 0, .ref a3] σ = (if v = 0 then ((aW σ (fun t => t == .long) a3 0 (.long 0)).bind fun s1 => some (.inl (some (.int 0)), s1)) else ((aW σ (fun t => t == .long) a3 0 (.long 1)).bind fun s2 => some (.inl (some (.int 0)), s2))) := (blkH_eq G 25 (nst []) 24 (d + 1) 8 _ _ σ).trans rfl
theorem w25_h1 (G : Glb) (d : Nat) (a0 : Nat) (x1 : Int32) (x2 : Int32) (a3 : Nat) (σ : St) : run G (d + 1) 25 22 [some (.ref a0), some (.int x1), some (.int x2), some (.ref a3), none] [] σ = some (.inl (some (.int 1)), σ) := (blkH_eq G 25 (nst []) 24 (d + 1) 22 _ _ σ).trans rfl
theorem w25_h2 (G : Glb) (d : Nat) (a0 : Nat) (x1 : Int32) (x2 : Int32) (a3 : Nat) (σ : St) : run G (d + 1) 25 26 [some (.ref a0), some (.int x1), some (.int x2), some (.ref a3), none] [] σ = some (.inl (some (.int 2)), σ) := (blkH_eq G 25 (nst []) 24 (d + 1) 26 _ _ σ).trans rfl
theorem w25_v {G : Glb} {d : Nat} {a0 : Nat} {x1 : Int32} {x2 : Int32} {a3 : Nat} {v : Int32} {σ σ' σ'' : St} (hr : rcv σ a0 5 = true) (h : call G d 73 [.ref a0, .int x1, .int x2] σ = vI v σ') (hw : aW σ' (fun t => t == .long) a3 0 (.long (if v = 0 then 0 else 1)) = some σ'') : call G (d + 1) 25 [.ref a0, .int x1, .int x2, .ref a3] σ = vI 0 σ'' := by
  rw [w25_e, if_pos hr, hb_v h rfl, w25_r]
  by_cases hv : v = 0
  · rw [if_pos hv] at hw ⊢
    rw [hw]; rfl
  · rw [if_neg hv] at hw ⊢
    rw [hw]; rfl
theorem w25_x1 {G : Glb} {d : Nat} {a0 : Nat} {x1 : Int32} {x2 : Int32} {a3 : Nat} {e : String} {σ σ' : St} (hr : rcv σ a0 5 = true) (h : call G d 73 [.ref a0, .int x1, .int x2] σ = some (.inr e, σ')) (he : hnd 25 5 e = some (22, 4)) : call G (d + 1) 25 [.ref a0, .int x1, .int x2, .ref a3] σ = vI 1 σ' := by
  rw [w25_e, if_pos hr, hb_x h he]; exact w25_h1 ..
theorem w25_x2 {G : Glb} {d : Nat} {a0 : Nat} {x1 : Int32} {x2 : Int32} {a3 : Nat} {e : String} {σ σ' : St} (hr : rcv σ a0 5 = true) (h : call G d 73 [.ref a0, .int x1, .int x2] σ = some (.inr e, σ')) (he : hnd 25 5 e = some (26, 4)) : call G (d + 1) 25 [.ref a0, .int x1, .int x2, .ref a3] σ = vI 2 σ' := by
  rw [w25_e, if_pos hr, hb_x h he]; exact w25_h2 ..
-- 26 Law.favouritePost
theorem w26_e (G : Glb) (d : Nat) (a0 : Nat) (x1 : Int32) (a2 : Nat) (σ : St) : call G (d + 1) 26 [.ref a0, .int x1, .ref a2] σ = (if rcv σ a0 5 = true then hb G (d + 1) 26 4 (call G d 74 [.ref a0, .int x1] σ) (retT 74) (nulT 74) [some (.ref a0), some (.int x1), some (.ref a2), none] [.int 0, .ref a2] (fun st' s' => run G (d + 1) 26 7 [some (.ref a0), some (.int x1), some (.ref a2), none] st' s') else none) := (blkH_eq G 26 (nst [7]) 17 (d + 1) 0 _ [] σ).trans rfl
theorem w26_r (G : Glb) (d : Nat) (a0 : Nat) (x1 : Int32) (a2 : Nat) (v : Int32) (σ : St) : run G (d + 1) 26 7 [some (.ref a0), some (.int x1), some (.ref a2), none] [.int v, .int 0, .ref a2] σ = ((aW σ (fun t => t == .long) a2 0 (.long (v : Int32).toInt64)).bind fun s1 => some (.inl (some (.int 0)), s1)) := (blkH_eq G 26 (nst []) 17 (d + 1) 7 _ _ σ).trans rfl
theorem w26_h1 (G : Glb) (d : Nat) (a0 : Nat) (x1 : Int32) (a2 : Nat) (σ : St) : run G (d + 1) 26 13 [some (.ref a0), some (.int x1), some (.ref a2), none] [] σ = some (.inl (some (.int 1)), σ) := (blkH_eq G 26 (nst []) 17 (d + 1) 13 _ _ σ).trans rfl
theorem w26_v {G : Glb} {d : Nat} {a0 : Nat} {x1 : Int32} {a2 : Nat} {v : Int32} {σ σ' σ'' : St} (hr : rcv σ a0 5 = true) (h : call G d 74 [.ref a0, .int x1] σ = vI v σ') (hw : aW σ' (fun t => t == .long) a2 0 (.long v.toInt64) = some σ'') : call G (d + 1) 26 [.ref a0, .int x1, .ref a2] σ = vI 0 σ'' := by
  rw [w26_e, if_pos hr, hb_v h rfl, w26_r, hw]; rfl
theorem w26_x1 {G : Glb} {d : Nat} {a0 : Nat} {x1 : Int32} {a2 : Nat} {e : String} {σ σ' : St} (hr : rcv σ a0 5 = true) (h : call G d 74 [.ref a0, .int x1] σ = some (.inr e, σ')) (he : hnd 26 4 e = some (13, 3)) : call G (d + 1) 26 [.ref a0, .int x1, .ref a2] σ = vI 1 σ' := by
  rw [w26_e, if_pos hr, hb_x h he]; exact w26_h1 ..
-- 27 Law.bestCandidate
theorem w27_e (G : Glb) (d : Nat) (a0 : Nat) (x1 : Int32) (a2 : Nat) (σ : St) : call G (d + 1) 27 [.ref a0, .int x1, .ref a2] σ = (if rcv σ a0 5 = true then hb G (d + 1) 27 4 (call G d 75 [.ref a0, .int x1] σ) (retT 75) (nulT 75) [some (.ref a0), some (.int x1), some (.ref a2), none] [.int 0, .ref a2] (fun st' s' => run G (d + 1) 27 7 [some (.ref a0), some (.int x1), some (.ref a2), none] st' s') else none) := (blkH_eq G 27 (nst [7]) 20 (d + 1) 0 _ [] σ).trans rfl
theorem w27_r (G : Glb) (d : Nat) (a0 : Nat) (x1 : Int32) (a2 : Nat) (v : Int32) (σ : St) : run G (d + 1) 27 7 [some (.ref a0), some (.int x1), some (.ref a2), none] [.int v, .int 0, .ref a2] σ = ((aW σ (fun t => t == .long) a2 0 (.long (v : Int32).toInt64)).bind fun s1 => some (.inl (some (.int 0)), s1)) := (blkH_eq G 27 (nst []) 20 (d + 1) 7 _ _ σ).trans rfl
theorem w27_h1 (G : Glb) (d : Nat) (a0 : Nat) (x1 : Int32) (a2 : Nat) (σ : St) : run G (d + 1) 27 13 [some (.ref a0), some (.int x1), some (.ref a2), none] [] σ = some (.inl (some (.int 1)), σ) := (blkH_eq G 27 (nst []) 20 (d + 1) 13 _ _ σ).trans rfl
theorem w27_h2 (G : Glb) (d : Nat) (a0 : Nat) (x1 : Int32) (a2 : Nat) (σ : St) : run G (d + 1) 27 16 [some (.ref a0), some (.int x1), some (.ref a2), none] [] σ = some (.inl (some (.int 2)), σ) := (blkH_eq G 27 (nst []) 20 (d + 1) 16 _ _ σ).trans rfl
theorem w27_v {G : Glb} {d : Nat} {a0 : Nat} {x1 : Int32} {a2 : Nat} {v : Int32} {σ σ' σ'' : St} (hr : rcv σ a0 5 = true) (h : call G d 75 [.ref a0, .int x1] σ = vI v σ') (hw : aW σ' (fun t => t == .long) a2 0 (.long v.toInt64) = some σ'') : call G (d + 1) 27 [.ref a0, .int x1, .ref a2] σ = vI 0 σ'' := by
  rw [w27_e, if_pos hr, hb_v h rfl, w27_r, hw]; rfl
theorem w27_x1 {G : Glb} {d : Nat} {a0 : Nat} {x1 : Int32} {a2 : Nat} {e : String} {σ σ' : St} (hr : rcv σ a0 5 = true) (h : call G d 75 [.ref a0, .int x1] σ = some (.inr e, σ')) (he : hnd 27 4 e = some (13, 3)) : call G (d + 1) 27 [.ref a0, .int x1, .ref a2] σ = vI 1 σ' := by
  rw [w27_e, if_pos hr, hb_x h he]; exact w27_h1 ..
theorem w27_x2 {G : Glb} {d : Nat} {a0 : Nat} {x1 : Int32} {a2 : Nat} {e : String} {σ σ' : St} (hr : rcv σ a0 5 = true) (h : call G d 75 [.ref a0, .int x1] σ = some (.inr e, σ')) (he : hnd 27 4 e = some (16, 3)) : call G (d + 1) 27 [.ref a0, .int x1, .ref a2] σ = vI 2 σ' := by
  rw [w27_e, if_pos hr, hb_x h he]; exact w27_h2 ..
-- 28 Law.candidateCount
theorem w28_e (G : Glb) (d : Nat) (a0 : Nat) (x1 : Int32) (a2 : Nat) (σ : St) : call G (d + 1) 28 [.ref a0, .int x1, .ref a2] σ = (if rcv σ a0 5 = true then hb G (d + 1) 28 4 (call G d 76 [.ref a0, .int x1] σ) (retT 76) (nulT 76) [some (.ref a0), some (.int x1), some (.ref a2), none] [.int 0, .ref a2] (fun st' s' => run G (d + 1) 28 7 [some (.ref a0), some (.int x1), some (.ref a2), none] st' s') else none) := (blkH_eq G 28 (nst [7]) 17 (d + 1) 0 _ [] σ).trans rfl
theorem w28_r (G : Glb) (d : Nat) (a0 : Nat) (x1 : Int32) (a2 : Nat) (v : Int32) (σ : St) : run G (d + 1) 28 7 [some (.ref a0), some (.int x1), some (.ref a2), none] [.int v, .int 0, .ref a2] σ = ((aW σ (fun t => t == .long) a2 0 (.long (v : Int32).toInt64)).bind fun s1 => some (.inl (some (.int 0)), s1)) := (blkH_eq G 28 (nst []) 17 (d + 1) 7 _ _ σ).trans rfl
theorem w28_h1 (G : Glb) (d : Nat) (a0 : Nat) (x1 : Int32) (a2 : Nat) (σ : St) : run G (d + 1) 28 13 [some (.ref a0), some (.int x1), some (.ref a2), none] [] σ = some (.inl (some (.int 1)), σ) := (blkH_eq G 28 (nst []) 17 (d + 1) 13 _ _ σ).trans rfl
theorem w28_v {G : Glb} {d : Nat} {a0 : Nat} {x1 : Int32} {a2 : Nat} {v : Int32} {σ σ' σ'' : St} (hr : rcv σ a0 5 = true) (h : call G d 76 [.ref a0, .int x1] σ = vI v σ') (hw : aW σ' (fun t => t == .long) a2 0 (.long v.toInt64) = some σ'') : call G (d + 1) 28 [.ref a0, .int x1, .ref a2] σ = vI 0 σ'' := by
  rw [w28_e, if_pos hr, hb_v h rfl, w28_r, hw]; rfl
theorem w28_x1 {G : Glb} {d : Nat} {a0 : Nat} {x1 : Int32} {a2 : Nat} {e : String} {σ σ' : St} (hr : rcv σ a0 5 = true) (h : call G d 76 [.ref a0, .int x1] σ = some (.inr e, σ')) (he : hnd 28 4 e = some (13, 3)) : call G (d + 1) 28 [.ref a0, .int x1, .ref a2] σ = vI 1 σ' := by
  rw [w28_e, if_pos hr, hb_x h he]; exact w28_h1 ..
-- 29 Law.hire
theorem w29_e (G : Glb) (d : Nat) (a0 : Nat) (x1 : Int32) (x2 : Int32) (a3 : Nat) (σ : St) : call G (d + 1) 29 [.ref a0, .int x1, .int x2, .ref a3] σ = (if rcv σ a0 5 = true then hb G (d + 1) 29 5 (call G d 77 [.ref a0, .int x1, .int x2] σ) (retT 77) (nulT 77) [some (.ref a0), some (.int x1), some (.int x2), some (.ref a3), none] [.int 0, .ref a3] (fun st' s' => run G (d + 1) 29 8 [some (.ref a0), some (.int x1), some (.int x2), some (.ref a3), none] st' s') else none) := (blkH_eq G 29 (nst [8]) 27 (d + 1) 0 _ [] σ).trans rfl
theorem w29_r (G : Glb) (d : Nat) (a0 : Nat) (x1 : Int32) (x2 : Int32) (a3 : Nat) (v : Int32) (σ : St) : run G (d + 1) 29 8 [some (.ref a0), some (.int x1), some (.int x2), some (.ref a3), none] [.int v, .int 0, .ref a3] σ = ((aW σ (fun t => t == .long) a3 0 (.long (v : Int32).toInt64)).bind fun s1 => some (.inl (some (.int 0)), s1)) := (blkH_eq G 29 (nst []) 27 (d + 1) 8 _ _ σ).trans rfl
theorem w29_h1 (G : Glb) (d : Nat) (a0 : Nat) (x1 : Int32) (x2 : Int32) (a3 : Nat) (σ : St) : run G (d + 1) 29 15 [some (.ref a0), some (.int x1), some (.int x2), some (.ref a3), none] [] σ = some (.inl (some (.int 1)), σ) := (blkH_eq G 29 (nst []) 27 (d + 1) 15 _ _ σ).trans rfl
theorem w29_h2 (G : Glb) (d : Nat) (a0 : Nat) (x1 : Int32) (x2 : Int32) (a3 : Nat) (σ : St) : run G (d + 1) 29 19 [some (.ref a0), some (.int x1), some (.int x2), some (.ref a3), none] [] σ = some (.inl (some (.int 2)), σ) := (blkH_eq G 29 (nst []) 27 (d + 1) 19 _ _ σ).trans rfl
theorem w29_h3 (G : Glb) (d : Nat) (a0 : Nat) (x1 : Int32) (x2 : Int32) (a3 : Nat) (σ : St) : run G (d + 1) 29 23 [some (.ref a0), some (.int x1), some (.int x2), some (.ref a3), none] [] σ = some (.inl (some (.int 3)), σ) := (blkH_eq G 29 (nst []) 27 (d + 1) 23 _ _ σ).trans rfl
theorem w29_h4 (G : Glb) (d : Nat) (a0 : Nat) (x1 : Int32) (x2 : Int32) (a3 : Nat) (σ : St) : run G (d + 1) 29 27 [some (.ref a0), some (.int x1), some (.int x2), some (.ref a3), none] [] σ = some (.inl (some (.int 4)), σ) := (blkH_eq G 29 (nst []) 27 (d + 1) 27 _ _ σ).trans rfl
theorem w29_v {G : Glb} {d : Nat} {a0 : Nat} {x1 : Int32} {x2 : Int32} {a3 : Nat} {v : Int32} {σ σ' σ'' : St} (hr : rcv σ a0 5 = true) (h : call G d 77 [.ref a0, .int x1, .int x2] σ = vI v σ') (hw : aW σ' (fun t => t == .long) a3 0 (.long v.toInt64) = some σ'') : call G (d + 1) 29 [.ref a0, .int x1, .int x2, .ref a3] σ = vI 0 σ'' := by
  rw [w29_e, if_pos hr, hb_v h rfl, w29_r, hw]; rfl
theorem w29_x1 {G : Glb} {d : Nat} {a0 : Nat} {x1 : Int32} {x2 : Int32} {a3 : Nat} {e : String} {σ σ' : St} (hr : rcv σ a0 5 = true) (h : call G d 77 [.ref a0, .int x1, .int x2] σ = some (.inr e, σ')) (he : hnd 29 5 e = some (15, 4)) : call G (d + 1) 29 [.ref a0, .int x1, .int x2, .ref a3] σ = vI 1 σ' := by
  rw [w29_e, if_pos hr, hb_x h he]; exact w29_h1 ..
theorem w29_x2 {G : Glb} {d : Nat} {a0 : Nat} {x1 : Int32} {x2 : Int32} {a3 : Nat} {e : String} {σ σ' : St} (hr : rcv σ a0 5 = true) (h : call G d 77 [.ref a0, .int x1, .int x2] σ = some (.inr e, σ')) (he : hnd 29 5 e = some (19, 4)) : call G (d + 1) 29 [.ref a0, .int x1, .int x2, .ref a3] σ = vI 2 σ' := by
  rw [w29_e, if_pos hr, hb_x h he]; exact w29_h2 ..
theorem w29_x3 {G : Glb} {d : Nat} {a0 : Nat} {x1 : Int32} {x2 : Int32} {a3 : Nat} {e : String} {σ σ' : St} (hr : rcv σ a0 5 = true) (h : call G d 77 [.ref a0, .int x1, .int x2] σ = some (.inr e, σ')) (he : hnd 29 5 e = some (23, 4)) : call G (d + 1) 29 [.ref a0, .int x1, .int x2, .ref a3] σ = vI 3 σ' := by
  rw [w29_e, if_pos hr, hb_x h he]; exact w29_h3 ..
theorem w29_x4 {G : Glb} {d : Nat} {a0 : Nat} {x1 : Int32} {x2 : Int32} {a3 : Nat} {e : String} {σ σ' : St} (hr : rcv σ a0 5 = true) (h : call G d 77 [.ref a0, .int x1, .int x2] σ = some (.inr e, σ')) (he : hnd 29 5 e = some (27, 4)) : call G (d + 1) 29 [.ref a0, .int x1, .int x2, .ref a3] σ = vI 4 σ' := by
  rw [w29_e, if_pos hr, hb_x h he]; exact w29_h4 ..
-- 30 Law.hireBest
theorem w30_e (G : Glb) (d : Nat) (a0 : Nat) (x1 : Int32) (a2 : Nat) (σ : St) : call G (d + 1) 30 [.ref a0, .int x1, .ref a2] σ = (if rcv σ a0 5 = true then hb G (d + 1) 30 4 (call G d 78 [.ref a0, .int x1] σ) (retT 78) (nulT 78) [some (.ref a0), some (.int x1), some (.ref a2), none] [.int 0, .ref a2] (fun st' s' => run G (d + 1) 30 7 [some (.ref a0), some (.int x1), some (.ref a2), none] st' s') else none) := (blkH_eq G 30 (nst [7]) 23 (d + 1) 0 _ [] σ).trans rfl
theorem w30_r (G : Glb) (d : Nat) (a0 : Nat) (x1 : Int32) (a2 : Nat) (v : Int32) (σ : St) : run G (d + 1) 30 7 [some (.ref a0), some (.int x1), some (.ref a2), none] [.int v, .int 0, .ref a2] σ = ((aW σ (fun t => t == .long) a2 0 (.long (v : Int32).toInt64)).bind fun s1 => some (.inl (some (.int 0)), s1)) := (blkH_eq G 30 (nst []) 23 (d + 1) 7 _ _ σ).trans rfl
theorem w30_h1 (G : Glb) (d : Nat) (a0 : Nat) (x1 : Int32) (a2 : Nat) (σ : St) : run G (d + 1) 30 13 [some (.ref a0), some (.int x1), some (.ref a2), none] [] σ = some (.inl (some (.int 1)), σ) := (blkH_eq G 30 (nst []) 23 (d + 1) 13 _ _ σ).trans rfl
theorem w30_h2 (G : Glb) (d : Nat) (a0 : Nat) (x1 : Int32) (a2 : Nat) (σ : St) : run G (d + 1) 30 16 [some (.ref a0), some (.int x1), some (.ref a2), none] [] σ = some (.inl (some (.int 2)), σ) := (blkH_eq G 30 (nst []) 23 (d + 1) 16 _ _ σ).trans rfl
theorem w30_h3 (G : Glb) (d : Nat) (a0 : Nat) (x1 : Int32) (a2 : Nat) (σ : St) : run G (d + 1) 30 19 [some (.ref a0), some (.int x1), some (.ref a2), none] [] σ = some (.inl (some (.int 3)), σ) := (blkH_eq G 30 (nst []) 23 (d + 1) 19 _ _ σ).trans rfl
theorem w30_v {G : Glb} {d : Nat} {a0 : Nat} {x1 : Int32} {a2 : Nat} {v : Int32} {σ σ' σ'' : St} (hr : rcv σ a0 5 = true) (h : call G d 78 [.ref a0, .int x1] σ = vI v σ') (hw : aW σ' (fun t => t == .long) a2 0 (.long v.toInt64) = some σ'') : call G (d + 1) 30 [.ref a0, .int x1, .ref a2] σ = vI 0 σ'' := by
  rw [w30_e, if_pos hr, hb_v h rfl, w30_r, hw]; rfl
theorem w30_x1 {G : Glb} {d : Nat} {a0 : Nat} {x1 : Int32} {a2 : Nat} {e : String} {σ σ' : St} (hr : rcv σ a0 5 = true) (h : call G d 78 [.ref a0, .int x1] σ = some (.inr e, σ')) (he : hnd 30 4 e = some (13, 3)) : call G (d + 1) 30 [.ref a0, .int x1, .ref a2] σ = vI 1 σ' := by
  rw [w30_e, if_pos hr, hb_x h he]; exact w30_h1 ..
theorem w30_x2 {G : Glb} {d : Nat} {a0 : Nat} {x1 : Int32} {a2 : Nat} {e : String} {σ σ' : St} (hr : rcv σ a0 5 = true) (h : call G d 78 [.ref a0, .int x1] σ = some (.inr e, σ')) (he : hnd 30 4 e = some (16, 3)) : call G (d + 1) 30 [.ref a0, .int x1, .ref a2] σ = vI 2 σ' := by
  rw [w30_e, if_pos hr, hb_x h he]; exact w30_h2 ..
theorem w30_x3 {G : Glb} {d : Nat} {a0 : Nat} {x1 : Int32} {a2 : Nat} {e : String} {σ σ' : St} (hr : rcv σ a0 5 = true) (h : call G d 78 [.ref a0, .int x1] σ = some (.inr e, σ')) (he : hnd 30 4 e = some (19, 3)) : call G (d + 1) 30 [.ref a0, .int x1, .ref a2] σ = vI 3 σ' := by
  rw [w30_e, if_pos hr, hb_x h he]; exact w30_h3 ..
-- 31 Law.dismiss
theorem w31_e (G : Glb) (d : Nat) (a0 : Nat) (x1 : Int32) (a2 : Nat) (σ : St) : call G (d + 1) 31 [.ref a0, .int x1, .ref a2] σ = (if rcv σ a0 5 = true then hb G (d + 1) 31 4 (call G d 79 [.ref a0, .int x1] σ) (retT 79) (nulT 79) [some (.ref a0), some (.int x1), some (.ref a2), none] [.int 0, .ref a2] (fun st' s' => run G (d + 1) 31 7 [some (.ref a0), some (.int x1), some (.ref a2), none] st' s') else none) := (blkH_eq G 31 (nst [7]) 20 (d + 1) 0 _ [] σ).trans rfl
theorem w31_r (G : Glb) (d : Nat) (a0 : Nat) (x1 : Int32) (a2 : Nat) (v : Int32) (σ : St) : run G (d + 1) 31 7 [some (.ref a0), some (.int x1), some (.ref a2), none] [.int v, .int 0, .ref a2] σ = ((aW σ (fun t => t == .long) a2 0 (.long (v : Int32).toInt64)).bind fun s1 => some (.inl (some (.int 0)), s1)) := (blkH_eq G 31 (nst []) 20 (d + 1) 7 _ _ σ).trans rfl
theorem w31_h1 (G : Glb) (d : Nat) (a0 : Nat) (x1 : Int32) (a2 : Nat) (σ : St) : run G (d + 1) 31 13 [some (.ref a0), some (.int x1), some (.ref a2), none] [] σ = some (.inl (some (.int 1)), σ) := (blkH_eq G 31 (nst []) 20 (d + 1) 13 _ _ σ).trans rfl
theorem w31_h2 (G : Glb) (d : Nat) (a0 : Nat) (x1 : Int32) (a2 : Nat) (σ : St) : run G (d + 1) 31 16 [some (.ref a0), some (.int x1), some (.ref a2), none] [] σ = some (.inl (some (.int 2)), σ) := (blkH_eq G 31 (nst []) 20 (d + 1) 16 _ _ σ).trans rfl
theorem w31_v {G : Glb} {d : Nat} {a0 : Nat} {x1 : Int32} {a2 : Nat} {v : Int32} {σ σ' σ'' : St} (hr : rcv σ a0 5 = true) (h : call G d 79 [.ref a0, .int x1] σ = vI v σ') (hw : aW σ' (fun t => t == .long) a2 0 (.long v.toInt64) = some σ'') : call G (d + 1) 31 [.ref a0, .int x1, .ref a2] σ = vI 0 σ'' := by
  rw [w31_e, if_pos hr, hb_v h rfl, w31_r, hw]; rfl
theorem w31_x1 {G : Glb} {d : Nat} {a0 : Nat} {x1 : Int32} {a2 : Nat} {e : String} {σ σ' : St} (hr : rcv σ a0 5 = true) (h : call G d 79 [.ref a0, .int x1] σ = some (.inr e, σ')) (he : hnd 31 4 e = some (13, 3)) : call G (d + 1) 31 [.ref a0, .int x1, .ref a2] σ = vI 1 σ' := by
  rw [w31_e, if_pos hr, hb_x h he]; exact w31_h1 ..
theorem w31_x2 {G : Glb} {d : Nat} {a0 : Nat} {x1 : Int32} {a2 : Nat} {e : String} {σ σ' : St} (hr : rcv σ a0 5 = true) (h : call G d 79 [.ref a0, .int x1] σ = some (.inr e, σ')) (he : hnd 31 4 e = some (16, 3)) : call G (d + 1) 31 [.ref a0, .int x1, .ref a2] σ = vI 2 σ' := by
  rw [w31_e, if_pos hr, hb_x h he]; exact w31_h2 ..
-- 32 Law.passDays
theorem w32_e (G : Glb) (d : Nat) (a0 : Nat) (x1 : Int32) (a2 : Nat) (σ : St) : call G (d + 1) 32 [.ref a0, .int x1, .ref a2] σ = (if rcv σ a0 5 = true then hb G (d + 1) 32 4 (call G d 85 [.ref a0, .int x1] σ) (retT 85) (nulT 85) [some (.ref a0), some (.int x1), some (.ref a2), none] [.int 0, .ref a2] (fun st' s' => run G (d + 1) 32 7 [some (.ref a0), some (.int x1), some (.ref a2), none] st' s') else none) := (blkH_eq G 32 (nst [7]) 17 (d + 1) 0 _ [] σ).trans rfl
theorem w32_r (G : Glb) (d : Nat) (a0 : Nat) (x1 : Int32) (a2 : Nat) (v : Int32) (σ : St) : run G (d + 1) 32 7 [some (.ref a0), some (.int x1), some (.ref a2), none] [.int v, .int 0, .ref a2] σ = ((aW σ (fun t => t == .long) a2 0 (.long (v : Int32).toInt64)).bind fun s1 => some (.inl (some (.int 0)), s1)) := (blkH_eq G 32 (nst []) 17 (d + 1) 7 _ _ σ).trans rfl
theorem w32_h1 (G : Glb) (d : Nat) (a0 : Nat) (x1 : Int32) (a2 : Nat) (σ : St) : run G (d + 1) 32 13 [some (.ref a0), some (.int x1), some (.ref a2), none] [] σ = some (.inl (some (.int 1)), σ) := (blkH_eq G 32 (nst []) 17 (d + 1) 13 _ _ σ).trans rfl
theorem w32_v {G : Glb} {d : Nat} {a0 : Nat} {x1 : Int32} {a2 : Nat} {v : Int32} {σ σ' σ'' : St} (hr : rcv σ a0 5 = true) (h : call G d 85 [.ref a0, .int x1] σ = vI v σ') (hw : aW σ' (fun t => t == .long) a2 0 (.long v.toInt64) = some σ'') : call G (d + 1) 32 [.ref a0, .int x1, .ref a2] σ = vI 0 σ'' := by
  rw [w32_e, if_pos hr, hb_v h rfl, w32_r, hw]; rfl
theorem w32_x1 {G : Glb} {d : Nat} {a0 : Nat} {x1 : Int32} {a2 : Nat} {e : String} {σ σ' : St} (hr : rcv σ a0 5 = true) (h : call G d 85 [.ref a0, .int x1] σ = some (.inr e, σ')) (he : hnd 32 4 e = some (13, 3)) : call G (d + 1) 32 [.ref a0, .int x1, .ref a2] σ = vI 1 σ' := by
  rw [w32_e, if_pos hr, hb_x h he]; exact w32_h1 ..
-- 33 Law.daysUntilDismissal
theorem w33_e (G : Glb) (d : Nat) (a0 : Nat) (x1 : Int32) (a2 : Nat) (σ : St) : call G (d + 1) 33 [.ref a0, .int x1, .ref a2] σ = (if rcv σ a0 5 = true then hb G (d + 1) 33 4 (call G d 87 [.ref a0, .int x1] σ) (retT 87) (nulT 87) [some (.ref a0), some (.int x1), some (.ref a2), none] [.int 0, .ref a2] (fun st' s' => run G (d + 1) 33 7 [some (.ref a0), some (.int x1), some (.ref a2), none] st' s') else none) := (blkH_eq G 33 (nst [7]) 17 (d + 1) 0 _ [] σ).trans rfl
theorem w33_r (G : Glb) (d : Nat) (a0 : Nat) (x1 : Int32) (a2 : Nat) (v : Int32) (σ : St) : run G (d + 1) 33 7 [some (.ref a0), some (.int x1), some (.ref a2), none] [.int v, .int 0, .ref a2] σ = ((aW σ (fun t => t == .long) a2 0 (.long (v : Int32).toInt64)).bind fun s1 => some (.inl (some (.int 0)), s1)) := (blkH_eq G 33 (nst []) 17 (d + 1) 7 _ _ σ).trans rfl
theorem w33_h1 (G : Glb) (d : Nat) (a0 : Nat) (x1 : Int32) (a2 : Nat) (σ : St) : run G (d + 1) 33 13 [some (.ref a0), some (.int x1), some (.ref a2), none] [] σ = some (.inl (some (.int 1)), σ) := (blkH_eq G 33 (nst []) 17 (d + 1) 13 _ _ σ).trans rfl
theorem w33_v {G : Glb} {d : Nat} {a0 : Nat} {x1 : Int32} {a2 : Nat} {v : Int32} {σ σ' σ'' : St} (hr : rcv σ a0 5 = true) (h : call G d 87 [.ref a0, .int x1] σ = vI v σ') (hw : aW σ' (fun t => t == .long) a2 0 (.long v.toInt64) = some σ'') : call G (d + 1) 33 [.ref a0, .int x1, .ref a2] σ = vI 0 σ'' := by
  rw [w33_e, if_pos hr, hb_v h rfl, w33_r, hw]; rfl
theorem w33_x1 {G : Glb} {d : Nat} {a0 : Nat} {x1 : Int32} {a2 : Nat} {e : String} {σ σ' : St} (hr : rcv σ a0 5 = true) (h : call G d 87 [.ref a0, .int x1] σ = some (.inr e, σ')) (he : hnd 33 4 e = some (13, 3)) : call G (d + 1) 33 [.ref a0, .int x1, .ref a2] σ = vI 1 σ' := by
  rw [w33_e, if_pos hr, hb_x h he]; exact w33_h1 ..
-- 34 Law.meanScore
theorem w34_e (G : Glb) (d : Nat) (a0 : Nat) (a1 : Nat) (σ : St) : call G (d + 1) 34 [.ref a0, .ref a1] σ = (if rcv σ a0 5 = true then hb G (d + 1) 34 3 (call G d 89 [.ref a0] σ) (retT 89) (nulT 89) [some (.ref a0), some (.ref a1), none] [.int 0, .ref a1] (fun st' s' => run G (d + 1) 34 6 [some (.ref a0), some (.ref a1), none] st' s') else none) := (blkH_eq G 34 (nst [6]) 15 (d + 1) 0 _ [] σ).trans rfl
theorem w34_r (G : Glb) (d : Nat) (a0 : Nat) (a1 : Nat) (v : UInt64) (σ : St) : run G (d + 1) 34 6 [some (.ref a0), some (.ref a1), none] [.double v, .int 0, .ref a1] σ = ((aW σ (fun t => t == .double) a1 0 (.double v)).bind fun s1 => some (.inl (some (.int 0)), s1)) := (blkH_eq G 34 (nst []) 15 (d + 1) 6 _ _ σ).trans rfl
theorem w34_h1 (G : Glb) (d : Nat) (a0 : Nat) (a1 : Nat) (σ : St) : run G (d + 1) 34 11 [some (.ref a0), some (.ref a1), none] [] σ = some (.inl (some (.int 1)), σ) := (blkH_eq G 34 (nst []) 15 (d + 1) 11 _ _ σ).trans rfl
theorem w34_v {G : Glb} {d : Nat} {a0 : Nat} {a1 : Nat} {v : UInt64} {σ σ' σ'' : St} (hr : rcv σ a0 5 = true) (h : call G d 89 [.ref a0] σ = some (.inl (some (.double v)), σ')) (hw : aW σ' (fun t => t == .double) a1 0 (.double v) = some σ'') : call G (d + 1) 34 [.ref a0, .ref a1] σ = vI 0 σ'' := by
  rw [w34_e, if_pos hr, hb_v h rfl, w34_r, hw]; rfl
theorem w34_x1 {G : Glb} {d : Nat} {a0 : Nat} {a1 : Nat} {e : String} {σ σ' : St} (hr : rcv σ a0 5 = true) (h : call G d 89 [.ref a0] σ = some (.inr e, σ')) (he : hnd 34 3 e = some (11, 2)) : call G (d + 1) 34 [.ref a0, .ref a1] σ = vI 1 σ' := by
  rw [w34_e, if_pos hr, hb_x h he]; exact w34_h1 ..
-- 35 Law.filledFraction
theorem w35_e (G : Glb) (d : Nat) (a0 : Nat) (a1 : Nat) (σ : St) : call G (d + 1) 35 [.ref a0, .ref a1] σ = (if rcv σ a0 5 = true then hb G (d + 1) 35 3 (call G d 90 [.ref a0] σ) (retT 90) (nulT 90) [some (.ref a0), some (.ref a1), none] [.int 0, .ref a1] (fun st' s' => run G (d + 1) 35 6 [some (.ref a0), some (.ref a1), none] st' s') else none) := (blkH_eq G 35 (nst [6]) 16 (d + 1) 0 _ [] σ).trans rfl
theorem w35_r (G : Glb) (d : Nat) (a0 : Nat) (a1 : Nat) (v : UInt32) (σ : St) : run G (d + 1) 35 6 [some (.ref a0), some (.ref a1), none] [.float v, .int 0, .ref a1] σ = (if FP.f2d v &&& 0x7fffffffffffffff ≤ 0x7ff0000000000000 then ((aW σ (fun t => t == .double) a1 0 (.double (FP.f2d v))).bind fun s1 => some (.inl (some (.int 0)), s1)) else none) := (blkH_eq G 35 (nst []) 16 (d + 1) 6 _ _ σ).trans rfl
theorem w35_h1 (G : Glb) (d : Nat) (a0 : Nat) (a1 : Nat) (σ : St) : run G (d + 1) 35 12 [some (.ref a0), some (.ref a1), none] [] σ = some (.inl (some (.int 1)), σ) := (blkH_eq G 35 (nst []) 16 (d + 1) 12 _ _ σ).trans rfl
theorem w35_v {G : Glb} {d : Nat} {a0 : Nat} {a1 : Nat} {v : UInt32} {σ σ' σ'' : St} (hr : rcv σ a0 5 = true) (h : call G d 90 [.ref a0] σ = some (.inl (some (.float v)), σ')) (hn : FP.f2d v &&& 0x7fffffffffffffff ≤ 0x7ff0000000000000) (hw : aW σ' (fun t => t == .double) a1 0 (.double (FP.f2d v)) = some σ'') : call G (d + 1) 35 [.ref a0, .ref a1] σ = vI 0 σ'' := by
  rw [w35_e, if_pos hr, hb_v h rfl, w35_r, if_pos hn, hw]; rfl
theorem w35_x1 {G : Glb} {d : Nat} {a0 : Nat} {a1 : Nat} {e : String} {σ σ' : St} (hr : rcv σ a0 5 = true) (h : call G d 90 [.ref a0] σ = some (.inr e, σ')) (he : hnd 35 3 e = some (12, 2)) : call G (d + 1) 35 [.ref a0, .ref a1] σ = vI 1 σ' := by
  rw [w35_e, if_pos hr, hb_x h he]; exact w35_h1 ..
-- 36 Law.writeApplicant
theorem w36_e (G : Glb) (d : Nat) (a0 : Nat) (x1 : Int32) (a2 : Nat) (σ : St) : call G (d + 1) 36 [.ref a0, .int x1, .ref a2] σ = (if rcv σ a0 5 = true then hb G (d + 1) 36 4 (call G d 91 [.ref a0, .int x1] σ) (retT 91) (nulT 91) [some (.ref a0), some (.int x1), some (.ref a2), none] [.int 0, .ref a2] (fun st' s' => run G (d + 1) 36 7 [some (.ref a0), some (.int x1), some (.ref a2), none] st' s') else none) := (blkH_eq G 36 (nst [7]) 17 (d + 1) 0 _ [] σ).trans rfl
theorem w36_r (G : Glb) (d : Nat) (a0 : Nat) (x1 : Int32) (a2 : Nat) (v : Int32) (σ : St) : run G (d + 1) 36 7 [some (.ref a0), some (.int x1), some (.ref a2), none] [.int v, .int 0, .ref a2] σ = ((aW σ (fun t => t == .long) a2 0 (.long (v : Int32).toInt64)).bind fun s1 => some (.inl (some (.int 0)), s1)) := (blkH_eq G 36 (nst []) 17 (d + 1) 7 _ _ σ).trans rfl
theorem w36_h1 (G : Glb) (d : Nat) (a0 : Nat) (x1 : Int32) (a2 : Nat) (σ : St) : run G (d + 1) 36 13 [some (.ref a0), some (.int x1), some (.ref a2), none] [] σ = some (.inl (some (.int 1)), σ) := (blkH_eq G 36 (nst []) 17 (d + 1) 13 _ _ σ).trans rfl
theorem w36_v {G : Glb} {d : Nat} {a0 : Nat} {x1 : Int32} {a2 : Nat} {v : Int32} {σ σ' σ'' : St} (hr : rcv σ a0 5 = true) (h : call G d 91 [.ref a0, .int x1] σ = vI v σ') (hw : aW σ' (fun t => t == .long) a2 0 (.long v.toInt64) = some σ'') : call G (d + 1) 36 [.ref a0, .int x1, .ref a2] σ = vI 0 σ'' := by
  rw [w36_e, if_pos hr, hb_v h rfl, w36_r, hw]; rfl
theorem w36_x1 {G : Glb} {d : Nat} {a0 : Nat} {x1 : Int32} {a2 : Nat} {e : String} {σ σ' : St} (hr : rcv σ a0 5 = true) (h : call G d 91 [.ref a0, .int x1] σ = some (.inr e, σ')) (he : hnd 36 4 e = some (13, 3)) : call G (d + 1) 36 [.ref a0, .int x1, .ref a2] σ = vI 1 σ' := by
  rw [w36_e, if_pos hr, hb_x h he]; exact w36_h1 ..
-- 37 Law.outputCharacter
theorem w37_e (G : Glb) (d : Nat) (a0 : Nat) (x1 : Int32) (a2 : Nat) (σ : St) : call G (d + 1) 37 [.ref a0, .int x1, .ref a2] σ = (if rcv σ a0 5 = true then hb G (d + 1) 37 4 (call G d 93 [.ref a0, .int x1] σ) (retT 93) (nulT 93) [some (.ref a0), some (.int x1), some (.ref a2), none] [.int 0, .ref a2] (fun st' s' => run G (d + 1) 37 7 [some (.ref a0), some (.int x1), some (.ref a2), none] st' s') else none) := (blkH_eq G 37 (nst [7]) 17 (d + 1) 0 _ [] σ).trans rfl
theorem w37_r (G : Glb) (d : Nat) (a0 : Nat) (x1 : Int32) (a2 : Nat) (v : Int32) (σ : St) : run G (d + 1) 37 7 [some (.ref a0), some (.int x1), some (.ref a2), none] [.int v, .int 0, .ref a2] σ = ((aW σ (fun t => t == .long) a2 0 (.long (v : Int32).toInt64)).bind fun s1 => some (.inl (some (.int 0)), s1)) := (blkH_eq G 37 (nst []) 17 (d + 1) 7 _ _ σ).trans rfl
theorem w37_h1 (G : Glb) (d : Nat) (a0 : Nat) (x1 : Int32) (a2 : Nat) (σ : St) : run G (d + 1) 37 13 [some (.ref a0), some (.int x1), some (.ref a2), none] [] σ = some (.inl (some (.int 1)), σ) := (blkH_eq G 37 (nst []) 17 (d + 1) 13 _ _ σ).trans rfl
theorem w37_v {G : Glb} {d : Nat} {a0 : Nat} {x1 : Int32} {a2 : Nat} {v : Int32} {σ σ' σ'' : St} (hr : rcv σ a0 5 = true) (h : call G d 93 [.ref a0, .int x1] σ = vI v σ') (hw : aW σ' (fun t => t == .long) a2 0 (.long v.toInt64) = some σ'') : call G (d + 1) 37 [.ref a0, .int x1, .ref a2] σ = vI 0 σ'' := by
  rw [w37_e, if_pos hr, hb_v h rfl, w37_r, hw]; rfl
theorem w37_x1 {G : Glb} {d : Nat} {a0 : Nat} {x1 : Int32} {a2 : Nat} {e : String} {σ σ' : St} (hr : rcv σ a0 5 = true) (h : call G d 93 [.ref a0, .int x1] σ = some (.inr e, σ')) (he : hnd 37 4 e = some (13, 3)) : call G (d + 1) 37 [.ref a0, .int x1, .ref a2] σ = vI 1 σ' := by
  rw [w37_e, if_pos hr, hb_x h he]; exact w37_h1 ..
-- 38 Law.feed
theorem w38_e (G : Glb) (d : Nat) (a0 : Nat) (x1 : Int32) (a2 : Nat) (σ : St) : call G (d + 1) 38 [.ref a0, .int x1, .ref a2] σ = (if rcv σ a0 5 = true then hb G (d + 1) 38 4 (call G d 95 [.ref a0, .int x1] σ) (retT 95) (nulT 95) [some (.ref a0), some (.int x1), some (.ref a2), none] [.int 0, .ref a2] (fun st' s' => run G (d + 1) 38 7 [some (.ref a0), some (.int x1), some (.ref a2), none] st' s') else none) := (blkH_eq G 38 (nst [7]) 17 (d + 1) 0 _ [] σ).trans rfl
theorem w38_r (G : Glb) (d : Nat) (a0 : Nat) (x1 : Int32) (a2 : Nat) (v : Int32) (σ : St) : run G (d + 1) 38 7 [some (.ref a0), some (.int x1), some (.ref a2), none] [.int v, .int 0, .ref a2] σ = ((aW σ (fun t => t == .long) a2 0 (.long (v : Int32).toInt64)).bind fun s1 => some (.inl (some (.int 0)), s1)) := (blkH_eq G 38 (nst []) 17 (d + 1) 7 _ _ σ).trans rfl
theorem w38_h1 (G : Glb) (d : Nat) (a0 : Nat) (x1 : Int32) (a2 : Nat) (σ : St) : run G (d + 1) 38 13 [some (.ref a0), some (.int x1), some (.ref a2), none] [] σ = some (.inl (some (.int 1)), σ) := (blkH_eq G 38 (nst []) 17 (d + 1) 13 _ _ σ).trans rfl
theorem w38_v {G : Glb} {d : Nat} {a0 : Nat} {x1 : Int32} {a2 : Nat} {v : Int32} {σ σ' σ'' : St} (hr : rcv σ a0 5 = true) (h : call G d 95 [.ref a0, .int x1] σ = vI v σ') (hw : aW σ' (fun t => t == .long) a2 0 (.long v.toInt64) = some σ'') : call G (d + 1) 38 [.ref a0, .int x1, .ref a2] σ = vI 0 σ'' := by
  rw [w38_e, if_pos hr, hb_v h rfl, w38_r, hw]; rfl
theorem w38_x1 {G : Glb} {d : Nat} {a0 : Nat} {x1 : Int32} {a2 : Nat} {e : String} {σ σ' : St} (hr : rcv σ a0 5 = true) (h : call G d 95 [.ref a0, .int x1] σ = some (.inr e, σ')) (he : hnd 38 4 e = some (13, 3)) : call G (d + 1) 38 [.ref a0, .int x1, .ref a2] σ = vI 1 σ' := by
  rw [w38_e, if_pos hr, hb_x h he]; exact w38_h1 ..
-- 39 Law.execute
theorem w39_e (G : Glb) (d : Nat) (a0 : Nat) (a1 : Nat) (σ : St) : call G (d + 1) 39 [.ref a0, .ref a1] σ = (if rcv σ a0 5 = true then hb G (d + 1) 39 3 (call G d 96 [.ref a0] σ) (retT 96) (nulT 96) [some (.ref a0), some (.ref a1), none] [.int 0, .ref a1] (fun st' s' => run G (d + 1) 39 6 [some (.ref a0), some (.ref a1), none] st' s') else none) := (blkH_eq G 39 (nst [6]) 19 (d + 1) 0 _ [] σ).trans rfl
theorem w39_r (G : Glb) (d : Nat) (a0 : Nat) (a1 : Nat) (v : Int32) (σ : St) : run G (d + 1) 39 6 [some (.ref a0), some (.ref a1), none] [.int v, .int 0, .ref a1] σ = ((aW σ (fun t => t == .long) a1 0 (.long (v : Int32).toInt64)).bind fun s1 => some (.inl (some (.int 0)), s1)) := (blkH_eq G 39 (nst []) 19 (d + 1) 6 _ _ σ).trans rfl
theorem w39_h1 (G : Glb) (d : Nat) (a0 : Nat) (a1 : Nat) (σ : St) : run G (d + 1) 39 12 [some (.ref a0), some (.ref a1), none] [] σ = some (.inl (some (.int 1)), σ) := (blkH_eq G 39 (nst []) 19 (d + 1) 12 _ _ σ).trans rfl
theorem w39_h2 (G : Glb) (d : Nat) (a0 : Nat) (a1 : Nat) (σ : St) : run G (d + 1) 39 15 [some (.ref a0), some (.ref a1), none] [] σ = some (.inl (some (.int 2)), σ) := (blkH_eq G 39 (nst []) 19 (d + 1) 15 _ _ σ).trans rfl
theorem w39_v {G : Glb} {d : Nat} {a0 : Nat} {a1 : Nat} {v : Int32} {σ σ' σ'' : St} (hr : rcv σ a0 5 = true) (h : call G d 96 [.ref a0] σ = vI v σ') (hw : aW σ' (fun t => t == .long) a1 0 (.long v.toInt64) = some σ'') : call G (d + 1) 39 [.ref a0, .ref a1] σ = vI 0 σ'' := by
  rw [w39_e, if_pos hr, hb_v h rfl, w39_r, hw]; rfl
theorem w39_x1 {G : Glb} {d : Nat} {a0 : Nat} {a1 : Nat} {e : String} {σ σ' : St} (hr : rcv σ a0 5 = true) (h : call G d 96 [.ref a0] σ = some (.inr e, σ')) (he : hnd 39 3 e = some (12, 2)) : call G (d + 1) 39 [.ref a0, .ref a1] σ = vI 1 σ' := by
  rw [w39_e, if_pos hr, hb_x h he]; exact w39_h1 ..
theorem w39_x2 {G : Glb} {d : Nat} {a0 : Nat} {a1 : Nat} {e : String} {σ σ' : St} (hr : rcv σ a0 5 = true) (h : call G d 96 [.ref a0] σ = some (.inr e, σ')) (he : hnd 39 3 e = some (15, 2)) : call G (d + 1) 39 [.ref a0, .ref a1] σ = vI 2 σ' := by
  rw [w39_e, if_pos hr, hb_x h he]; exact w39_h2 ..
-- 40 Law.errorPosition
theorem w40_e (G : Glb) (d : Nat) (a0 : Nat) (a1 : Nat) (σ : St) : call G (d + 1) 40 [.ref a0, .ref a1] σ = (if rcv σ a0 5 = true then hb G (d + 1) 40 3 (call G d 97 [.ref a0] σ) (retT 97) (nulT 97) [some (.ref a0), some (.ref a1), none] [.int 0, .ref a1] (fun st' s' => run G (d + 1) 40 6 [some (.ref a0), some (.ref a1), none] st' s') else none) := (blkH_eq G 40 (nst [6]) 16 (d + 1) 0 _ [] σ).trans rfl
theorem w40_r (G : Glb) (d : Nat) (a0 : Nat) (a1 : Nat) (v : Int32) (σ : St) : run G (d + 1) 40 6 [some (.ref a0), some (.ref a1), none] [.int v, .int 0, .ref a1] σ = ((aW σ (fun t => t == .long) a1 0 (.long (v : Int32).toInt64)).bind fun s1 => some (.inl (some (.int 0)), s1)) := (blkH_eq G 40 (nst []) 16 (d + 1) 6 _ _ σ).trans rfl
theorem w40_h1 (G : Glb) (d : Nat) (a0 : Nat) (a1 : Nat) (σ : St) : run G (d + 1) 40 12 [some (.ref a0), some (.ref a1), none] [] σ = some (.inl (some (.int 1)), σ) := (blkH_eq G 40 (nst []) 16 (d + 1) 12 _ _ σ).trans rfl
theorem w40_v {G : Glb} {d : Nat} {a0 : Nat} {a1 : Nat} {v : Int32} {σ σ' σ'' : St} (hr : rcv σ a0 5 = true) (h : call G d 97 [.ref a0] σ = vI v σ') (hw : aW σ' (fun t => t == .long) a1 0 (.long v.toInt64) = some σ'') : call G (d + 1) 40 [.ref a0, .ref a1] σ = vI 0 σ'' := by
  rw [w40_e, if_pos hr, hb_v h rfl, w40_r, hw]; rfl
theorem w40_x1 {G : Glb} {d : Nat} {a0 : Nat} {a1 : Nat} {e : String} {σ σ' : St} (hr : rcv σ a0 5 = true) (h : call G d 97 [.ref a0] σ = some (.inr e, σ')) (he : hnd 40 3 e = some (12, 2)) : call G (d + 1) 40 [.ref a0, .ref a1] σ = vI 1 σ' := by
  rw [w40_e, if_pos hr, hb_x h he]; exact w40_h1 ..
-- 41 Law.failedCommand
theorem w41_e (G : Glb) (d : Nat) (a0 : Nat) (a1 : Nat) (σ : St) : call G (d + 1) 41 [.ref a0, .ref a1] σ = (if rcv σ a0 5 = true then hb G (d + 1) 41 3 (call G d 98 [.ref a0] σ) (retT 98) (nulT 98) [some (.ref a0), some (.ref a1), none] [.int 0, .ref a1] (fun st' s' => run G (d + 1) 41 6 [some (.ref a0), some (.ref a1), none] st' s') else none) := (blkH_eq G 41 (nst [6]) 16 (d + 1) 0 _ [] σ).trans rfl
theorem w41_r (G : Glb) (d : Nat) (a0 : Nat) (a1 : Nat) (v : Int32) (σ : St) : run G (d + 1) 41 6 [some (.ref a0), some (.ref a1), none] [.int v, .int 0, .ref a1] σ = ((aW σ (fun t => t == .long) a1 0 (.long (v : Int32).toInt64)).bind fun s1 => some (.inl (some (.int 0)), s1)) := (blkH_eq G 41 (nst []) 16 (d + 1) 6 _ _ σ).trans rfl
theorem w41_h1 (G : Glb) (d : Nat) (a0 : Nat) (a1 : Nat) (σ : St) : run G (d + 1) 41 12 [some (.ref a0), some (.ref a1), none] [] σ = some (.inl (some (.int 1)), σ) := (blkH_eq G 41 (nst []) 16 (d + 1) 12 _ _ σ).trans rfl
theorem w41_v {G : Glb} {d : Nat} {a0 : Nat} {a1 : Nat} {v : Int32} {σ σ' σ'' : St} (hr : rcv σ a0 5 = true) (h : call G d 98 [.ref a0] σ = vI v σ') (hw : aW σ' (fun t => t == .long) a1 0 (.long v.toInt64) = some σ'') : call G (d + 1) 41 [.ref a0, .ref a1] σ = vI 0 σ'' := by
  rw [w41_e, if_pos hr, hb_v h rfl, w41_r, hw]; rfl
theorem w41_x1 {G : Glb} {d : Nat} {a0 : Nat} {a1 : Nat} {e : String} {σ σ' : St} (hr : rcv σ a0 5 = true) (h : call G d 98 [.ref a0] σ = some (.inr e, σ')) (he : hnd 41 3 e = some (12, 2)) : call G (d + 1) 41 [.ref a0, .ref a1] σ = vI 1 σ' := by
  rw [w41_e, if_pos hr, hb_x h he]; exact w41_h1 ..
-- 42 Law.undo
theorem w42_e (G : Glb) (d : Nat) (a0 : Nat) (a1 : Nat) (σ : St) : call G (d + 1) 42 [.ref a0, .ref a1] σ = (if rcv σ a0 5 = true then hb G (d + 1) 42 3 (call G d 99 [.ref a0] σ) (retT 99) (nulT 99) [some (.ref a0), some (.ref a1), none] [.int 0, .ref a1] (fun st' s' => run G (d + 1) 42 6 [some (.ref a0), some (.ref a1), none] st' s') else none) := (blkH_eq G 42 (nst [6]) 16 (d + 1) 0 _ [] σ).trans rfl
theorem w42_r (G : Glb) (d : Nat) (a0 : Nat) (a1 : Nat) (v : Int32) (σ : St) : run G (d + 1) 42 6 [some (.ref a0), some (.ref a1), none] [.int v, .int 0, .ref a1] σ = ((aW σ (fun t => t == .long) a1 0 (.long (v : Int32).toInt64)).bind fun s1 => some (.inl (some (.int 0)), s1)) := (blkH_eq G 42 (nst []) 16 (d + 1) 6 _ _ σ).trans rfl
theorem w42_h1 (G : Glb) (d : Nat) (a0 : Nat) (a1 : Nat) (σ : St) : run G (d + 1) 42 12 [some (.ref a0), some (.ref a1), none] [] σ = some (.inl (some (.int 1)), σ) := (blkH_eq G 42 (nst []) 16 (d + 1) 12 _ _ σ).trans rfl
theorem w42_v {G : Glb} {d : Nat} {a0 : Nat} {a1 : Nat} {v : Int32} {σ σ' σ'' : St} (hr : rcv σ a0 5 = true) (h : call G d 99 [.ref a0] σ = vI v σ') (hw : aW σ' (fun t => t == .long) a1 0 (.long v.toInt64) = some σ'') : call G (d + 1) 42 [.ref a0, .ref a1] σ = vI 0 σ'' := by
  rw [w42_e, if_pos hr, hb_v h rfl, w42_r, hw]; rfl
theorem w42_x1 {G : Glb} {d : Nat} {a0 : Nat} {a1 : Nat} {e : String} {σ σ' : St} (hr : rcv σ a0 5 = true) (h : call G d 99 [.ref a0] σ = some (.inr e, σ')) (he : hnd 42 3 e = some (12, 2)) : call G (d + 1) 42 [.ref a0, .ref a1] σ = vI 1 σ' := by
  rw [w42_e, if_pos hr, hb_x h he]; exact w42_h1 ..
-- 43 Law.restore
theorem w43_e (G : Glb) (d : Nat) (a0 : Nat) (a1 : Nat) (σ : St) : call G (d + 1) 43 [.ref a0, .ref a1] σ = (if rcv σ a0 5 = true then hb G (d + 1) 43 3 (call G d 102 [.ref a0] σ) (retT 102) (nulT 102) [some (.ref a0), some (.ref a1), none] [.int 0, .ref a1] (fun st' s' => run G (d + 1) 43 6 [some (.ref a0), some (.ref a1), none] st' s') else none) := (blkH_eq G 43 (nst [6]) 16 (d + 1) 0 _ [] σ).trans rfl
theorem w43_r (G : Glb) (d : Nat) (a0 : Nat) (a1 : Nat) (v : Int32) (σ : St) : run G (d + 1) 43 6 [some (.ref a0), some (.ref a1), none] [.int v, .int 0, .ref a1] σ = ((aW σ (fun t => t == .long) a1 0 (.long (v : Int32).toInt64)).bind fun s1 => some (.inl (some (.int 0)), s1)) := (blkH_eq G 43 (nst []) 16 (d + 1) 6 _ _ σ).trans rfl
theorem w43_h1 (G : Glb) (d : Nat) (a0 : Nat) (a1 : Nat) (σ : St) : run G (d + 1) 43 12 [some (.ref a0), some (.ref a1), none] [] σ = some (.inl (some (.int 1)), σ) := (blkH_eq G 43 (nst []) 16 (d + 1) 12 _ _ σ).trans rfl
theorem w43_v {G : Glb} {d : Nat} {a0 : Nat} {a1 : Nat} {v : Int32} {σ σ' σ'' : St} (hr : rcv σ a0 5 = true) (h : call G d 102 [.ref a0] σ = vI v σ') (hw : aW σ' (fun t => t == .long) a1 0 (.long v.toInt64) = some σ'') : call G (d + 1) 43 [.ref a0, .ref a1] σ = vI 0 σ'' := by
  rw [w43_e, if_pos hr, hb_v h rfl, w43_r, hw]; rfl
theorem w43_x1 {G : Glb} {d : Nat} {a0 : Nat} {a1 : Nat} {e : String} {σ σ' : St} (hr : rcv σ a0 5 = true) (h : call G d 102 [.ref a0] σ = some (.inr e, σ')) (he : hnd 43 3 e = some (12, 2)) : call G (d + 1) 43 [.ref a0, .ref a1] σ = vI 1 σ' := by
  rw [w43_e, if_pos hr, hb_x h he]; exact w43_h1 ..
