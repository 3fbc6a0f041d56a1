/-! THE MODEL'S METHODS over the picture, part 5: the most hires, undo. -/
def mcc (s : Nat → Int32) (a set q : Nat) : Bool := ((((nI set >>> (nI q &&& 31)) &&& 1) == 1) && ((po s q 4 == 0) && ftM s a q))
def mcq (s : Nat → Int32) (a set : Nat) (F : Nat → Int32) : Nat → (Nat → Int32)
  | 0 => F
  | q + 1 => if vp_nar .boolean (mcq s a set F q set) = 0 then (fun j => if j = set then bI (mcc s a set q && !(vp_nar .boolean (mcq s a set F q (clrn set q)) == 0)) else mcq s a set F q j) else mcq s a set F q
def mcs (s : Nat → Int32) (p a : Nat) : Nat → (Nat → Int32) → (Nat → Int32)
  | 0, F => F
  | t + 1, F => mcs s p a t (mcq s a t F p)
def mcA (s : Nat → Int32) (p : Nat) (F : Nat → Int32) : Nat → (Nat → Int32)
  | 0 => F
  | a + 1 => if wM s p a = true then mcs s p a 64 (mcA s p F a) else mcA s p F a
def mxM (F : Nat → Int32) : Nat → Int32
  | 0 => 0
  | t + 1 => if vp_nar .boolean (F t) = 0 then mxM F t else if mxM F t < btI (nI t) then btI (nI t) else mxM F t
def F0m : Nat → Int32 := fun j => if j = 0 then 1 else 0
theorem mcq_stop {s : Nat → Int32} {a set : Nat} {F : Nat → Int32} {q : Nat} (h : ¬ vp_nar .boolean (mcq s a set F q set) = 0) : ∀ d, mcq s a set F (q + d) = mcq s a set F q := by
  intro d
  induction d with
  | zero => rfl
  | succ d ih =>
    show mcq s a set F (q + d + 1) = _
    rw [mcq, ih, if_neg h]
section
variable {G : Glb} {A n r p u : Nat} {H : Hp} {m : Mm} {D : Bd} {s : Nat → Int32}
end
