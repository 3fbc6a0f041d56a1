theorem tt_h : hndT 119 = [] := rfl
theorem tt_0 (G : Glb) (d t : Nat) (id : Int32) (σ : St) : call G d 119 [.ref t, .int id] σ = run G d 119 2 [some (.ref t), some (.int id), some (.int 0)] [] σ := (blk_eq G 119 (nst [2]) rfl 40 d 0 _ [] σ).trans rfl
theorem tt_2 (G : Glb) (d t : Nat) (id i : Int32) (σ : St) : run G d 119 2 [some (.ref t), some (.int id), some (.int i)] [] σ =
   (fI σ t 0 0).bind fun c => if c ≤ i then some (.inl (some (.int (-1))), σ) else (fR σ t 0 2).bind fun a => (aI σ okI a i).bind fun x => if x = id then some (.inl (some (.int i)), σ) else run G d 119 2 [some (.ref t), some (.int id), some (.int (i + 1))] [] σ := (blk_eq G 119 (nst [2]) rfl 40 d 2 _ [] σ).trans rfl
