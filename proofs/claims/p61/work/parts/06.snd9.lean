/-! SOUNDNESS, part 9: one instruction (printed by wip/whole/gen_snd9.py). -/
section
variable {l : Launch} {S0 : State} {D : va_G} {dA : FieldType → ClassId} {p : Program} {e : Env} {R : Room} {s : State} {m : MethodId} {args : Array Value} {below : List Frame} {meth : Method} {c : Code} {Q : State → Prop} {i d n0 k0 : Nat}
variable {pc : Nat} {ls : Lo} {st : List Value} {σ : St}
theorem len_of {a len : Nat} (ha : ¬ a = 0) (h : a = 0 ∨ a = len) : len = a := by rcases h with h | h
                                                                                  · exact absurd h ha
                                                                                  · exact h.symm
theorem sem_sound {G : Glb} (T : TabOK) (T2 : TabOK2) (E : EnvOK l S0 D dA G) (F : Fr S0 p R s m args meth c i d n0 k0) {q : Instr × Nat} {nx : Nx} (hq : insT i pc = some q) (h : sem G i q.1 q.2 pc ls st σ some = some nx)
    (hA : AOK l S0 D dA p e R s m args below meth c Q i d n0 k0 pc ls st σ nx) : K_ l S0 D dA p e R s m args below meth c Q i n0 k0 pc ls st σ := by
  obtain ⟨Td, C0, I0, Tc, Tf, Tk, Tn, Te, Ta, Tr, Tv, Ts, Tp, TW, Tz, Tj, Tq, T6⟩ := T
  obtain ⟨⟨K0, N0, R0, A0, L0⟩, E0, G0, X0⟩ := E
  have Tl := T2.1
  obtain ⟨ins, len⟩ := q
  obtain ⟨hd, hl⟩ := Td i pc ins len hq
  cases ins
  case aconst_null =>
    obtain rfl := len_of (by decide) (show 1 = 0 ∨ 1 = len from hl)
    cases h
    exact k_null F hd hA.2
  case aload n =>
    obtain rfl := len_of (by decide) (show 2 = 0 ∨ 2 = len from hl)
    simp only [sem] at h
    rcases sLdA_ok h with ⟨x, h1, h2⟩ | ⟨h1, h2⟩
    · cases h2; exact k_aload F hd h1 hA.2
    · cases h2; exact k_aloadN F hd h1 hA.2
  case aload_n n =>
    obtain rfl := len_of (by decide) (show 1 = 0 ∨ 1 = len from hl)
    simp only [sem] at h
    rcases sLdA_ok h with ⟨x, h1, h2⟩ | ⟨h1, h2⟩
    · cases h2; exact k_aload_n F hd h1 hA.2
    · cases h2; exact k_aload_nN F hd h1 hA.2
  case iload n =>
    obtain rfl := len_of (by decide) (show 2 = 0 ∨ 2 = len from hl)
    simp only [sem] at h
    obtain ⟨x, h1, h2⟩ := sLdI_ok h
    cases h2; exact k_iload F hd h1 hA.2
  case iload_n n =>
    obtain rfl := len_of (by decide) (show 1 = 0 ∨ 1 = len from hl)
    simp only [sem] at h
    obtain ⟨x, h1, h2⟩ := sLdI_ok h
    cases h2; exact k_iload_n F hd h1 hA.2
  case fload n =>
    obtain rfl := len_of (by decide) (show 2 = 0 ∨ 2 = len from hl)
    simp only [sem] at h
    obtain ⟨x, h1, h2⟩ := sLdF_ok h
    cases h2; exact k_fload F hd h1 hA.2
  case fload_n n =>
    obtain rfl := len_of (by decide) (show 1 = 0 ∨ 1 = len from hl)
    simp only [sem] at h
    obtain ⟨x, h1, h2⟩ := sLdF_ok h
    cases h2; exact k_fload_n F hd h1 hA.2
  case dload n =>
    obtain rfl := len_of (by decide) (show 2 = 0 ∨ 2 = len from hl)
    simp only [sem] at h
    obtain ⟨x, h1, h2⟩ := sLdD_ok h
    cases h2; exact k_dload F hd h1 hA.2
  case dload_n n =>
    obtain rfl := len_of (by decide) (show 1 = 0 ∨ 1 = len from hl)
    simp only [sem] at h
    obtain ⟨x, h1, h2⟩ := sLdD_ok h
    cases h2; exact k_dload_n F hd h1 hA.2
  case istore n =>
    obtain rfl := len_of (by decide) (show 2 = 0 ∨ 2 = len from hl)
    simp only [sem] at h
    obtain ⟨x, r, ls', rfl, h1, h2⟩ := sStI_ok h
    cases h2; exact k_istore F hd h1 hA.2
  case istore_n n =>
    obtain rfl := len_of (by decide) (show 1 = 0 ∨ 1 = len from hl)
    simp only [sem] at h
    obtain ⟨x, r, ls', rfl, h1, h2⟩ := sStI_ok h
    cases h2; exact k_istore_n F hd h1 hA.2
  case fstore n =>
    obtain rfl := len_of (by decide) (show 2 = 0 ∨ 2 = len from hl)
    simp only [sem] at h
    obtain ⟨x, r, ls', rfl, h1, h2⟩ := sStF_ok h
    cases h2; exact k_fstore F hd h1 hA.2
  case fstore_n n =>
    obtain rfl := len_of (by decide) (show 1 = 0 ∨ 1 = len from hl)
    simp only [sem] at h
    obtain ⟨x, r, ls', rfl, h1, h2⟩ := sStF_ok h
    cases h2; exact k_fstore_n F hd h1 hA.2
  case astore n =>
    obtain rfl := len_of (by decide) (show 2 = 0 ∨ 2 = len from hl)
    simp only [sem] at h
    rcases sStA_ok h with ⟨x, r, ls', rfl, h1, h2⟩ | ⟨r, ls', rfl, h1, h2⟩
    · cases h2; exact k_astore F hd h1 hA.2
    · cases h2; exact k_astoreN F hd h1 hA.2
  case astore_n n =>
    obtain rfl := len_of (by decide) (show 1 = 0 ∨ 1 = len from hl)
    simp only [sem] at h
    rcases sStA_ok h with ⟨x, r, ls', rfl, h1, h2⟩ | ⟨r, ls', rfl, h1, h2⟩
    · cases h2; exact k_astore_n F hd h1 hA.2
    · cases h2; exact k_astore_nN F hd h1 hA.2
  case lload n =>
    obtain rfl := len_of (by decide) (show 2 = 0 ∨ 2 = len from hl)
    simp only [sem] at h
    obtain ⟨x, h1, h2⟩ := sLdJ_ok h
    cases h2; exact k_lload F hd h1 hA.2
  case lload_n n =>
    obtain rfl := len_of (by decide) (show 1 = 0 ∨ 1 = len from hl)
    simp only [sem] at h
    obtain ⟨x, h1, h2⟩ := sLdJ_ok h
    cases h2; exact k_lload_n F hd h1 hA.2
  case lstore n =>
    obtain rfl := len_of (by decide) (show 2 = 0 ∨ 2 = len from hl)
    simp only [sem] at h
    obtain ⟨x, r, ls', rfl, h0, hn, h1, h2⟩ := sStJ_ok h
    cases h2; exact k_lstore F hd h0 hn h1 hA.2
  case lstore_n n =>
    obtain rfl := len_of (by decide) (show 1 = 0 ∨ 1 = len from hl)
    simp only [sem] at h
    obtain ⟨x, r, ls', rfl, h0, hn, h1, h2⟩ := sStJ_ok h
    cases h2; exact k_lstore_n F hd rfl h0 hn h1 hA.2
  case ladd =>
    obtain rfl := len_of (by decide) (show 1 = 0 ∨ 1 = len from hl)
    simp only [sem] at h
    split at h
    · cases h; exact k_ladd F hd hA.2
    · cases h
  case lmul =>
    obtain rfl := len_of (by decide) (show 1 = 0 ∨ 1 = len from hl)
    simp only [sem] at h
    split at h
    · cases h; exact k_lmul F hd hA.2
    · cases h
  case ldc2_w x =>
    obtain rfl := len_of (by decide) (show 3 = 0 ∨ 3 = len from hl)
    simp only [sem] at h
    split at h
    · rename_i v hv
      cases h; exact k_ldc2 F (Tj _ _ _ hv) hd hA.2
    · cases h
  case checkcast x =>
    obtain rfl := len_of (by decide) (show 3 = 0 ∨ 3 = len from hl)
    simp only [sem] at h
    split at h
    case h_2 => cases h
    rename_i z a r hz
    split at h
    case isFalse => cases h
    rename_i hb
    cases h; exact k_cast F E0 (Tq _ _ _ hz) hd hb hA.2
  case dstore n =>
    obtain rfl := len_of (by decide) (show 2 = 0 ∨ 2 = len from hl)
    simp only [sem] at h
    obtain ⟨x, r, ls', rfl, h0, hn, h1, h2⟩ := sStD_ok h
    cases h2; exact k_dstore F hd h0 hn h1 hA.2
  case iconst n =>
    obtain rfl := len_of (by decide) (show 1 = 0 ∨ 1 = len from hl)
    cases h; exact k_iconst F hd hA.2
  case bipush n =>
    obtain rfl := len_of (by decide) (show 2 = 0 ∨ 2 = len from hl)
    cases h; exact k_bipush F hd hA.2
  case sipush n =>
    obtain rfl := len_of (by decide) (show 3 = 0 ∨ 3 = len from hl)
    cases h; exact k_sipush F hd hA.2
  case lconst n =>
    obtain rfl := len_of (by decide) (show 1 = 0 ∨ 1 = len from hl)
    cases h; exact k_lconst F hd hA.2
  case fconst n =>
    obtain rfl := len_of (by decide) (show 1 = 0 ∨ 1 = len from hl)
    simp only [sem] at h
    split at h
    · rename_i h0
      subst h0
      cases h; exact k_fconst F hd hA.2
    · cases h
  case dconst n =>
    obtain rfl := len_of (by decide) (show 1 = 0 ∨ 1 = len from hl)
    simp only [sem] at h
    split at h
    · rename_i h0
      subst h0
      cases h; exact k_dconst F hd hA.2
    · cases h
  case iadd =>
    obtain rfl := len_of (by decide) (show 1 = 0 ∨ 1 = len from hl)
    simp only [sem] at h
    obtain ⟨x, y, r, rfl, h2⟩ := op2_ok h
    cases h2; exact k_iadd F hd hA.2
  case isub =>
    obtain rfl := len_of (by decide) (show 1 = 0 ∨ 1 = len from hl)
    simp only [sem] at h
    obtain ⟨x, y, r, rfl, h2⟩ := op2_ok h
    cases h2; exact k_isub F hd hA.2
  case imul =>
    obtain rfl := len_of (by decide) (show 1 = 0 ∨ 1 = len from hl)
    simp only [sem] at h
    obtain ⟨x, y, r, rfl, h2⟩ := op2_ok h
    cases h2; exact k_imul F hd hA.2
  case iand =>
    obtain rfl := len_of (by decide) (show 1 = 0 ∨ 1 = len from hl)
    simp only [sem] at h
    obtain ⟨x, y, r, rfl, h2⟩ := op2_ok h
    cases h2; exact k_iand F hd hA.2
  case ior =>
    obtain rfl := len_of (by decide) (show 1 = 0 ∨ 1 = len from hl)
    simp only [sem] at h
    obtain ⟨x, y, r, rfl, h2⟩ := op2_ok h
    cases h2; exact k_ior F hd hA.2
  case ixor =>
    obtain rfl := len_of (by decide) (show 1 = 0 ∨ 1 = len from hl)
    simp only [sem] at h
    obtain ⟨x, y, r, rfl, h2⟩ := op2_ok h
    cases h2; exact k_ixor F hd hA.2
  case ishl =>
    obtain rfl := len_of (by decide) (show 1 = 0 ∨ 1 = len from hl)
    simp only [sem] at h
    obtain ⟨x, y, r, rfl, h2⟩ := op2_ok h
    cases h2; exact k_ishl F hd hA.2
  case ishr =>
    obtain rfl := len_of (by decide) (show 1 = 0 ∨ 1 = len from hl)
    simp only [sem] at h
    obtain ⟨x, y, r, rfl, h2⟩ := op2_ok h
    cases h2; exact k_ishr F hd hA.2
  case iushr =>
    obtain rfl := len_of (by decide) (show 1 = 0 ∨ 1 = len from hl)
    simp only [sem] at h
    obtain ⟨x, y, r, rfl, h2⟩ := op2_ok h
    cases h2; exact k_iushr F hd hA.2
  case idiv =>
    obtain rfl := len_of (by decide) (show 1 = 0 ∨ 1 = len from hl)
    simp only [sem] at h
    split at h
    · split at h
      · cases h
      · rename_i h0
        cases h; exact k_idiv F hd h0 hA.2
    · cases h
  case irem =>
    obtain rfl := len_of (by decide) (show 1 = 0 ∨ 1 = len from hl)
    simp only [sem] at h
    split at h
    · split at h
      · cases h
      · rename_i h0
        cases h; exact k_irem F hd h0 hA.2
    · cases h
  case ineg =>
    obtain rfl := len_of (by decide) (show 1 = 0 ∨ 1 = len from hl)
    simp only [sem] at h
    obtain ⟨x, r, rfl, h2⟩ := op1_ok h
    cases h2; exact k_ineg F hd hA.2
  case i2l =>
    obtain rfl := len_of (by decide) (show 1 = 0 ∨ 1 = len from hl)
    simp only [sem] at h
    obtain ⟨x, r, rfl, h2⟩ := op1_ok h
    cases h2; exact k_i2l F hd hA.2
  case i2b =>
    obtain rfl := len_of (by decide) (show 1 = 0 ∨ 1 = len from hl)
    simp only [sem] at h
    obtain ⟨x, r, rfl, h2⟩ := op1_ok h
    cases h2; exact k_i2b F hd hA.2
  case i2c =>
    obtain rfl := len_of (by decide) (show 1 = 0 ∨ 1 = len from hl)
    simp only [sem] at h
    obtain ⟨x, r, rfl, h2⟩ := op1_ok h
    cases h2; exact k_i2c F hd hA.2
  case i2f =>
    obtain rfl := len_of (by decide) (show 1 = 0 ∨ 1 = len from hl)
    simp only [sem] at h
    obtain ⟨x, r, rfl, h2⟩ := op1_ok h
    cases h2; exact k_i2f F hd hA.2
  case i2d =>
    obtain rfl := len_of (by decide) (show 1 = 0 ∨ 1 = len from hl)
    simp only [sem] at h
    obtain ⟨x, r, rfl, h2⟩ := op1_ok h
    cases h2; exact k_i2d F hd hA.2
  case f2d =>
    obtain rfl := len_of (by decide) (show 1 = 0 ∨ 1 = len from hl)
    simp only [sem] at h
    split at h
    · split at h
      · rename_i h0
        cases h; exact k_f2d F hd h0 hA.2
      · cases h
    · cases h
  case ddiv =>
    obtain rfl := len_of (by decide) (show 1 = 0 ∨ 1 = len from hl)
    simp only [sem] at h
    split at h
    · split at h
      · rename_i h0
        cases h; exact k_ddiv F hd h0 hA.2
      · cases h
    · cases h
  case fdiv =>
    obtain rfl := len_of (by decide) (show 1 = 0 ∨ 1 = len from hl)
    simp only [sem] at h
    split at h
    · split at h
      · rename_i h0
        cases h; exact k_fdiv F hd h0 hA.2
      · cases h
    · cases h
  case lcmp =>
    obtain rfl := len_of (by decide) (show 1 = 0 ∨ 1 = len from hl)
    simp only [sem] at h
    split at h
    · cases h; exact k_lcmp F hd hA.2
    · cases h
  case dcmp op =>
    obtain rfl := len_of (by decide) (show 1 = 0 ∨ 1 = len from hl)
    simp only [sem] at h
    split at h
    · cases h; exact k_dcmp F hd hA.2
    · cases h
  case fcmp op =>
    obtain rfl := len_of (by decide) (show 1 = 0 ∨ 1 = len from hl)
    simp only [sem] at h
    split at h
    · cases h; exact k_fcmp F hd hA.2
    · cases h
  case dup =>
    obtain rfl := len_of (by decide) (show 1 = 0 ∨ 1 = len from hl)
    simp only [sem] at h
    split at h
    · cases h; exact k_dup F hd rfl hA.2
    · cases h; exact k_dup F hd rfl hA.2
    · cases h
  case pop =>
    obtain rfl := len_of (by decide) (show 1 = 0 ∨ 1 = len from hl)
    simp only [sem] at h
    split at h
    · cases h; exact k_pop F hd rfl hA.2
    · cases h; exact k_pop F hd rfl hA.2
    · cases h
  case dup_x1 =>
    obtain rfl := len_of (by decide) (show 1 = 0 ∨ 1 = len from hl)
    simp only [sem] at h
    split at h
    · cases h; exact k_dup_x1 F hd rfl rfl hA.2
    · cases h
  case dup2 =>
    obtain rfl := len_of (by decide) (show 1 = 0 ∨ 1 = len from hl)
    simp only [sem] at h
    split at h
    · cases h; exact k_dup2 F hd rfl rfl hA.2
    · cases h
  case iinc n z =>
    obtain rfl := len_of (by decide) (show 3 = 0 ∨ 3 = len from hl)
    simp only [sem] at h
    split at h
    · rename_i x h1
      obtain ⟨ls', h2, h3⟩ := Option.bind_eq_some_iff.mp h
      cases h3; exact k_iinc F hd h1 h2 hA.2
    · cases h
  case goto off =>
    obtain rfl := len_of (by decide) (show 3 = 0 ∨ 3 = len from hl)
    simp only [sem] at h
    obtain ⟨t, h1, h2⟩ := jmp_ok h
    cases h2; exact k_goto F hd h1 hA.2
  case ifCond cc off =>
    obtain rfl := len_of (by decide) (show 3 = 0 ∨ 3 = len from hl)
    simp only [sem] at h
    split at h
    case h_2 => cases h
    rename_i x r
    obtain ⟨t, h1, h2⟩ := jmp_ok h
    cases cc with
    | eq =>
      simp only [sIf] at h2
      split at h2
      · rename_i h0
        cases h2; exact k_if_eq F hd h1 (fun h9 => hA.2) (fun h9 => absurd h0 h9)
      · rename_i h0
        cases h2; exact k_if_eq F hd h1 (fun h9 => absurd h9 h0) (fun h9 => hA.2)
    | ne =>
      simp only [sIf] at h2
      split at h2
      · rename_i h0
        cases h2; exact k_if_ne F hd h1 (fun h9 => absurd h0 h9) (fun h9 => hA.2)
      · rename_i h0
        cases h2; exact k_if_ne F hd h1 (fun h9 => hA.2) (fun h9 => absurd h9 h0)
    | lt =>
      simp only [sIf] at h2
      split at h2
      · rename_i h0
        cases h2; exact k_if_lt F hd h1 (fun h9 => hA.2) (fun h9 => absurd h0 h9)
      · rename_i h0
        cases h2; exact k_if_lt F hd h1 (fun h9 => absurd h9 h0) (fun h9 => hA.2)
    | ge =>
      simp only [sIf] at h2
      split at h2
      · rename_i h0
        cases h2; exact k_if_ge F hd h1 (fun h9 => hA.2) (fun h9 => absurd h0 h9)
      · rename_i h0
        cases h2; exact k_if_ge F hd h1 (fun h9 => absurd h9 h0) (fun h9 => hA.2)
    | gt =>
      simp only [sIf] at h2
      split at h2
      · rename_i h0
        cases h2; exact k_if_gt F hd h1 (fun h9 => hA.2) (fun h9 => absurd h0 h9)
      · rename_i h0
        cases h2; exact k_if_gt F hd h1 (fun h9 => absurd h9 h0) (fun h9 => hA.2)
    | le =>
      simp only [sIf] at h2
      split at h2
      · rename_i h0
        cases h2; exact k_if_le F hd h1 (fun h9 => hA.2) (fun h9 => absurd h0 h9)
      · rename_i h0
        cases h2; exact k_if_le F hd h1 (fun h9 => absurd h9 h0) (fun h9 => hA.2)
  case if_icmp cc off =>
    obtain rfl := len_of (by decide) (show 3 = 0 ∨ 3 = len from hl)
    simp only [sem] at h
    split at h
    case h_2 => cases h
    rename_i x r
    obtain ⟨t, h1, h2⟩ := jmp_ok h
    cases cc with
    | eq =>
      simp only [sCmp] at h2
      split at h2
      · rename_i h0
        cases h2; exact k_icmp_eq F hd h1 (fun h9 => hA.2) (fun h9 => absurd h0 h9)
      · rename_i h0
        cases h2; exact k_icmp_eq F hd h1 (fun h9 => absurd h9 h0) (fun h9 => hA.2)
    | ne =>
      simp only [sCmp] at h2
      split at h2
      · rename_i h0
        cases h2; exact k_icmp_ne F hd h1 (fun h9 => absurd h0 h9) (fun h9 => hA.2)
      · rename_i h0
        cases h2; exact k_icmp_ne F hd h1 (fun h9 => hA.2) (fun h9 => absurd h9 h0)
    | lt =>
      simp only [sCmp] at h2
      split at h2
      · rename_i h0
        cases h2; exact k_icmp_lt F hd h1 (fun h9 => hA.2) (fun h9 => absurd h0 h9)
      · rename_i h0
        cases h2; exact k_icmp_lt F hd h1 (fun h9 => absurd h9 h0) (fun h9 => hA.2)
    | ge =>
      simp only [sCmp] at h2
      split at h2
      · rename_i h0
        cases h2; exact k_icmp_ge F hd h1 (fun h9 => hA.2) (fun h9 => absurd h0 h9)
      · rename_i h0
        cases h2; exact k_icmp_ge F hd h1 (fun h9 => absurd h9 h0) (fun h9 => hA.2)
    | gt =>
      simp only [sCmp] at h2
      split at h2
      · rename_i h0
        cases h2; exact k_icmp_gt F hd h1 (fun h9 => hA.2) (fun h9 => absurd h0 h9)
      · rename_i h0
        cases h2; exact k_icmp_gt F hd h1 (fun h9 => absurd h9 h0) (fun h9 => hA.2)
    | le =>
      simp only [sCmp] at h2
      split at h2
      · rename_i h0
        cases h2; exact k_icmp_le F hd h1 (fun h9 => hA.2) (fun h9 => absurd h0 h9)
      · rename_i h0
        cases h2; exact k_icmp_le F hd h1 (fun h9 => absurd h9 h0) (fun h9 => hA.2)
  case if_acmp cc off =>
    obtain rfl := len_of (by decide) (show 3 = 0 ∨ 3 = len from hl)
    simp only [sem] at h
    split at h
    case h_2 => cases h
    obtain ⟨t, h1, h2⟩ := jmp_ok h
    cases cc with
    | eq =>
      simp only at h2
      split at h2
      · rename_i h0
        cases h2; exact k_acmp_eq F hd h1 (fun h9 => hA.2) (fun h9 => absurd h0 h9)
      · rename_i h0
        cases h2; exact k_acmp_eq F hd h1 (fun h9 => absurd h9 h0) (fun h9 => hA.2)
    | ne =>
      simp only at h2
      split at h2
      · rename_i h0
        cases h2; exact k_acmp_ne F hd h1 (fun h9 => absurd h0 h9) (fun h9 => hA.2)
      · rename_i h0
        cases h2; exact k_acmp_ne F hd h1 (fun h9 => hA.2) (fun h9 => absurd h9 h0)
  case ifnull off =>
    obtain rfl := len_of (by decide) (show 3 = 0 ∨ 3 = len from hl)
    simp only [sem] at h
    split at h
    · obtain ⟨t, h1, h2⟩ := jmp_ok h
      cases h2; exact k_ifnullN F hd h1 hA.2
    · cases h; exact k_ifnull F hd hA.2
    · cases h
  case ifnonnull off =>
    obtain rfl := len_of (by decide) (show 3 = 0 ∨ 3 = len from hl)
    simp only [sem] at h
    split at h
    · obtain ⟨t, h1, h2⟩ := jmp_ok h
      cases h2; exact k_ifnonnull F hd h1 hA.2
    · cases h; exact k_ifnonnullN F hd hA.2
    · cases h
  case tableswitch dflt lo hi offs =>
    simp only [sem] at h
    split at h
    case h_2 => cases h
    unfold sSw at h
    split at h
    · rename_i h0
      obtain ⟨t, h1, h2⟩ := jmp_ok h
      cases h2; exact k_swOut F hd h0 h1 hA.2
    · rename_i h0
      split at h
      · rename_i off ho
        obtain ⟨t, h1, h2⟩ := jmp_ok h
        cases h2; exact k_swIn F hd (fun z => h0 (Or.inl z)) (fun z => h0 (Or.inr z)) ho h1 hA.2
      · cases h
  case getfield x =>
    obtain rfl := len_of (by decide) (show 3 = 0 ∨ 3 = len from hl)
    simp only [sem] at h
    split at h
    case h_2 => cases h
    rename_i ci f ty a r hr
    rcases Tf _ _ _ _ _ hr with h3 | h3
    · have hlt : ci < 100 := h3.choose_spec.2.1
      rw [ble_f hlt] at h
      simp only [cond_false] at h
      cases h6 : Nat.beq ci 6 with
      | true =>
        rw [h6] at h
        obtain rfl := Nat.eq_of_beq_eq_true h6
        simp only [cond_true] at h
        split at h
        · obtain ⟨v, h1, h2⟩ := gI_ok h
          cases h2
          exact k_gets6 F C0 K0 R0 hd h3 (T6 _ _ _ _ hr) h1 hA.2
        · obtain ⟨v, h1, h2⟩ := gR_ok h
          cases h2
          exact k_gets6 F C0 K0 R0 hd h3 (T6 _ _ _ _ hr) h1 hA.2
      | false =>
        rw [h6] at h
        simp only [cond_false] at h
        split at h
        · obtain ⟨v, h1, h2⟩ := Option.bind_eq_some_iff.mp h
          cases h2
          exact k_getf F C0 K0 hd h3 (fI_some h1) hA.2
        · obtain ⟨v, h1, h2⟩ := Option.bind_eq_some_iff.mp h
          cases h2
          exact k_getf F C0 K0 hd h3 (fR_some h1) hA.2
    · rw [ble_t h3.1] at h
      simp only [cond_true] at h
      split at h
      · obtain ⟨v, h1, h2⟩ := gI_ok h
        cases h2
        exact k_getro F R0 hd h3 h1 hA.2
      · obtain ⟨v, h1, h2⟩ := gR_ok h
        cases h2
        exact k_getro F R0 hd h3 h1 hA.2
  case putfield x =>
    obtain rfl := len_of (by decide) (show 3 = 0 ∨ 3 = len from hl)
    simp only [sem] at h
    split at h
    case h_2 => cases h
    rename_i ci f ty v a r hr
    split at h
    case isFalse => cases h
    rename_i hfit
    split at h
    case isFalse => cases h
    rename_i hpf
    obtain ⟨σ', h1, h2⟩ := Option.bind_eq_some_iff.mp h
    cases h2
    rcases Tf _ _ _ _ _ hr with h3 | h3
    · exact k_putf F C0 I0 K0 hd h3 hfit hpf h1 hA.2
    · unfold pfOK at hpf; rw [h3.2.2.1] at hpf; cases hpf
  case getstatic x =>
    obtain rfl := len_of (by decide) (show 3 = 0 ∨ 3 = len from hl)
    simp only [sem] at h
    obtain ⟨v, h1, h2⟩ := gS_ok h
    cases h2; exact k_gets F G0 (Tc i) hd h1 hA.2
  case ldc x =>
    obtain rfl := len_of (by decide) (show 2 = 0 ∨ 2 = len from hl)
    simp only [sem] at h
    split at h
    · rename_i v hv
      cases h; exact k_ldc F (Tk _ _ _ hv) hd hA.2
    · obtain ⟨v, h1, h2⟩ := gS_ok h
      cases h2; exact k_ldcS F G0 (Tc i) hd h1 hA.2
  case ldc_w x =>
    obtain rfl := len_of (by decide) (show 3 = 0 ∨ 3 = len from hl)
    simp only [sem] at h
    split at h
    · rename_i v hv
      cases h; exact k_ldcw F (Tk _ _ _ hv) hd hA.2
    · obtain ⟨v, h1, h2⟩ := gS_ok h
      cases h2; exact k_ldcwS F G0 (Tc i) hd h1 hA.2
  case new x =>
    obtain rfl := len_of (by decide) (show 3 = 0 ∨ 3 = len from hl)
    simp only [sem] at h
    split at h
    · rename_i ci fs hr
      cases h; exact k_new F C0 K0 hd (Tn _ _ _ _ hr) rfl hA.1.1 hA.1.2 hA.2
    · rename_i hr
      split at h
      · rename_i E hE
        split at h
        · rename_i hs
          cases h
          obtain ⟨h3, h4⟩ := Te _ _ _ _ _ hq hr hE
          exact hA x h3 hd h4 hs rfl
        · cases h
      · cases h
  case newarray ty =>
    obtain rfl := len_of (by decide) (show 2 = 0 ∨ 2 = len from hl)
    simp only [sem] at h
    split at h
    case h_2 => cases h
    rename_i n r
    split at h
    case isTrue => cases h
    rename_i h0
    have hna : naT ty = true := by cases hh : naT ty with
                                    | true => rfl
                                    | false => exact absurd (Or.inr (Or.inr hh)) h0
    cases h; exact k_newa F E0 hd (fun z => h0 (Or.inl z)) (Nat.le_of_not_lt fun z => h0 (Or.inr (Or.inl z))) hna (Ta ty hna) rfl hA.1.1 hA.1.2 hA.2
  case anewarray x =>
    obtain rfl := len_of (by decide) (show 3 = 0 ∨ 3 = len from hl)
    simp only [sem] at h
    split at h
    case h_2 => cases h
    rename_i C n r hr
    split at h
    case isTrue => cases h
    rename_i h0
    obtain ⟨rfl, hw⟩ := Tr _ _ _ hr
    cases h; exact k_anew F E0 hd (fun z => h0 (Or.inl z)) (Nat.le_of_not_lt fun z => h0 (Or.inr z)) hw A0 rfl hA.1.1 hA.1.2 hA.2
  case arraylength =>
    obtain rfl := len_of (by decide) (show 1 = 0 ∨ 1 = len from hl)
    simp only [sem] at h
    split at h
    case h_2 => cases h
    obtain ⟨v, h1, h2⟩ := Option.bind_eq_some_iff.mp h
    cases h2; exact k_alen F hd h1 hA.2
  case iaload =>
    obtain rfl := len_of (by decide) (show 1 = 0 ∨ 1 = len from hl)
    simp only [sem] at h
    split at h
    case h_2 => cases h
    obtain ⟨v, h1, h2⟩ := Option.bind_eq_some_iff.mp h
    cases h2; exact k_iaload F hd (aI_some h1) hA.2
  case caload =>
    obtain rfl := len_of (by decide) (show 1 = 0 ∨ 1 = len from hl)
    simp only [sem] at h
    split at h
    case h_2 => cases h
    obtain ⟨v, h1, h2⟩ := Option.bind_eq_some_iff.mp h
    cases h2; exact k_caload F hd (aI_some h1) hA.2
  case baload =>
    obtain rfl := len_of (by decide) (show 1 = 0 ∨ 1 = len from hl)
    simp only [sem] at h
    split at h
    case h_2 => cases h
    obtain ⟨v, h1, h2⟩ := Option.bind_eq_some_iff.mp h
    cases h2; exact k_baload F hd (aI_some h1) hA.2
  case laload =>
    obtain rfl := len_of (by decide) (show 1 = 0 ∨ 1 = len from hl)
    simp only [sem] at h
    split at h
    case h_2 => cases h
    obtain ⟨v, h1, h2⟩ := Option.bind_eq_some_iff.mp h
    cases h2; exact k_laload F hd (aJ_some h1) hA.2
  case daload =>
    obtain rfl := len_of (by decide) (show 1 = 0 ∨ 1 = len from hl)
    simp only [sem] at h
    split at h
    case h_2 => cases h
    obtain ⟨v, h1, h2⟩ := Option.bind_eq_some_iff.mp h
    cases h2; exact k_daload F hd (aD_some h1) hA.2
  case aaload =>
    obtain rfl := len_of (by decide) (show 1 = 0 ∨ 1 = len from hl)
    simp only [sem] at h
    split at h
    case h_2 => cases h
    obtain ⟨v, h1, h2⟩ := Option.bind_eq_some_iff.mp h
    cases h2; exact k_aaload F hd (aR_some h1) hA.2
  case iastore =>
    obtain rfl := len_of (by decide) (show 1 = 0 ∨ 1 = len from hl)
    simp only [sem] at h
    split at h
    case h_2 => cases h
    obtain ⟨σ', h1, h2⟩ := Option.bind_eq_some_iff.mp h
    cases h2; exact k_iastore F hd h1 hA.2
  case castore =>
    obtain rfl := len_of (by decide) (show 1 = 0 ∨ 1 = len from hl)
    simp only [sem] at h
    split at h
    case h_2 => cases h
    obtain ⟨σ', h1, h2⟩ := Option.bind_eq_some_iff.mp h
    cases h2; exact k_castore F hd h1 hA.2
  case bastore =>
    obtain rfl := len_of (by decide) (show 1 = 0 ∨ 1 = len from hl)
    simp only [sem] at h
    split at h
    case h_2 => cases h
    obtain ⟨σ', h1, h2⟩ := Option.bind_eq_some_iff.mp h
    cases h2; exact k_bastore F hd h1 hA.2
  case lastore =>
    obtain rfl := len_of (by decide) (show 1 = 0 ∨ 1 = len from hl)
    simp only [sem] at h
    split at h
    case h_2 => cases h
    obtain ⟨σ', h1, h2⟩ := Option.bind_eq_some_iff.mp h
    cases h2; exact k_lastore F hd h1 hA.2
  case dastore =>
    obtain rfl := len_of (by decide) (show 1 = 0 ∨ 1 = len from hl)
    simp only [sem] at h
    split at h
    case h_2 => cases h
    obtain ⟨σ', h1, h2⟩ := Option.bind_eq_some_iff.mp h
    cases h2; exact k_dastore F hd h1 hA.2
  case aastore =>
    obtain rfl := len_of (by decide) (show 1 = 0 ∨ 1 = len from hl)
    simp only [sem] at h
    split at h
    case h_2 => cases h
    obtain ⟨σ', h1, h2⟩ := Option.bind_eq_some_iff.mp h
    cases h2; exact k_aastore F K0 hd h1 hA.2
  case ireturn =>
    obtain rfl := len_of (by decide) (show 1 = 0 ∨ 1 = len from hl)
    simp only [sem] at h
    split at h
    case h_2 => cases h
    rename_i x ty hr
    split at h
    case isFalse => cases h
    split at h
    case isFalse => cases h
    rename_i hf
    cases h; exact hA rfl ⟨hd, rfl, ty, hr, narrow_of_fits hf⟩
  case areturn =>
    obtain rfl := len_of (by decide) (show 1 = 0 ∨ 1 = len from hl)
    simp only [sem] at h
    split at h
    · rename_i hr
      cases h; exact hA rfl ⟨hd, rfl, _, hr, Or.inl ⟨_, rfl⟩⟩
    · rename_i hr
      cases h; exact hA rfl ⟨hd, rfl, _, hr, Or.inr ⟨_, rfl⟩⟩
    · rename_i hr
      cases h; exact hA rfl ⟨hd, rfl, _, hr⟩
    · cases h
  case freturn =>
    obtain rfl := len_of (by decide) (show 1 = 0 ∨ 1 = len from hl)
    simp only [sem] at h
    split at h
    · rename_i hr
      cases h; exact hA rfl ⟨hd, rfl, hr⟩
    · cases h
  case dreturn =>
    obtain rfl := len_of (by decide) (show 1 = 0 ∨ 1 = len from hl)
    simp only [sem] at h
    split at h
    · rename_i hr
      cases h; exact hA rfl ⟨hd, rfl, hr⟩
    · cases h
  case lreturn =>
    obtain rfl := len_of (by decide) (show 1 = 0 ∨ 1 = len from hl)
    simp only [sem] at h
    split at h
    · rename_i hr
      cases h; exact hA rfl ⟨hd, rfl, hr⟩
    · cases h
  case return_ =>
    obtain rfl := len_of (by decide) (show 1 = 0 ∨ 1 = len from hl)
    simp only [sem] at h
    split at h
    · rename_i hr
      cases h; exact hA rfl ⟨hd, hr, rfl⟩
    · cases h
  case dstore_n n =>
    simp only [sem] at h
    exact absurd hq (Tz i pc n len)
  case invokevirtual x =>
    obtain rfl := len_of (by decide) (show 3 = 0 ∨ 3 = len from hl)
    simp only [sem] at h
    unfold sInv at h
    split at h
    case h_1 => cases h
    rename_i kind j n ci hr
    have hI := Tv _ _ _ _ _ hq hr
    rcases hI with ⟨hk, hI⟩ | ⟨hk, hI⟩
    · have hk' : kind = 0 := hk
      subst hk'
      simp only at h
      split at h
      case h_2 => cases h
      rename_i as b r hp
      obtain ⟨hj0, hjm, hle⟩ := Tl _ _ _ hr (by simp)
      split at h
      case isFalse => cases h
      rename_i hrc
      split at h
      case isFalse => cases h
      rename_i hcs
      cases h
      rcases hI with hI | hI | hI
      · exact hA rfl rfl rfl hj0 hjm (by have := popN_len hp; simp only [List.length_cons]; simp at hle; omega) hcs.1 (call_V F K0 R0 hd hI hp hrc hcs.2)
      · exact hA rfl rfl rfl hj0 hjm (by have := popN_len hp; simp only [List.length_cons]; simp at hle; omega) hcs.1 (call_U F K0 R0 hd hI hp hrc hcs.2)
      · exact hA rfl rfl rfl hj0 hjm (by have := popN_len hp; simp only [List.length_cons]; simp at hle; omega) hcs.1 (call_O F K0 R0 hd hI hp hrc hcs.2)
    · have hk' : kind = 8 := hk
      subst hk'
      simp only at h
      split at h
      case h_2 => cases h
      split at h
      case isFalse => cases h
      rename_i hcs
      obtain ⟨σ', h1, h2⟩ := Option.bind_eq_some_iff.mp h
      cases h2; exact k_clone F L0 hI hd hcs h1 hA.1.1 hA.1.2 hA.2
  case invokestatic x =>
    obtain rfl := len_of (by decide) (show 3 = 0 ∨ 3 = len from hl)
    simp only [sem] at h
    unfold sInv at h
    split at h
    case h_1 => cases h
    rename_i kind j n ci hr
    have hI := Ts _ _ _ _ _ hq hr
    rcases hI with ⟨hk, hI⟩ | ⟨hk, hI⟩ | ⟨hk, hI⟩ | ⟨hk, hI⟩
    · have hk' : kind = 1 := hk
      subst hk'
      simp only at h
      split at h
      case h_2 => cases h
      rename_i as r hp
      obtain ⟨hj0, hjm, hle⟩ := Tl _ _ _ hr (by simp)
      split at h
      case isFalse => cases h
      rename_i hcs
      cases h
      rcases hI with hI | hI | hI
      · exact hA rfl rfl rfl hj0 hjm (by have := popN_len hp; simp at hle; omega) hcs.1 (call_S F hd hI hp hcs.2)
      · exact hA rfl rfl rfl hj0 hjm (by have := popN_len hp; simp at hle; omega) hcs.1 (call_SN F N0 hd hI hp hcs.2)
      · exact hA rfl rfl rfl hj0 hjm (by have := popN_len hp; simp at hle; omega) hcs.1 (call_SX F hd hI hp hcs.2)
    · have hk' : kind = 5 := hk
      subst hk'
      simp only at h
      split at h
      case h_2 => cases h
      split at h
      case isFalse => cases h
      rename_i hcs
      obtain ⟨σ', h1, h2⟩ := Option.bind_eq_some_iff.mp h
      cases h2; exact k_acopy F hI hd hcs h1 hA.2
    · have hk' : kind = 6 := hk
      subst hk'
      simp only at h
      split at h
      case h_2 => cases h
      split at h
      case isFalse => cases h
      rename_i hcs
      cases h; exact k_mmax F hI hd hcs hA.1.1 hA.1.2 hA.2
    · have hk' : kind = 7 := hk
      subst hk'
      simp only at h
      split at h
      case h_2 => cases h
      split at h
      case isFalse => cases h
      rename_i hcs
      cases h; exact k_mmin F hI hd hcs hA.1.1 hA.1.2 hA.2
  case invokespecial x =>
    obtain rfl := len_of (by decide) (show 3 = 0 ∨ 3 = len from hl)
    simp only [sem] at h
    unfold sInv at h
    split at h
    case h_1 => cases h
    rename_i kind j n ci hr
    have hI := Tp _ _ _ _ _ hq hr
    rcases hI with ⟨hk, hI⟩ | ⟨hk, hI, hci, hci2⟩ | ⟨hk, hI⟩
    · have hk' : kind = 2 := hk
      subst hk'
      simp only at h
      split at h
      case h_2 => cases h
      rename_i as b r hp
      obtain ⟨hj0, hjm, hle⟩ := Tl _ _ _ hr (by simp)
      split at h
      case isFalse => cases h
      rename_i hcs
      cases h
      rcases hI with hI | hI
      · exact hA rfl rfl rfl hj0 hjm (by have := popN_len hp; simp only [List.length_cons]; simp at hle; omega) hcs.1 (call_I F hd hI hp hcs.2)
      · exact hA rfl rfl rfl hj0 hjm (by have := popN_len hp; simp only [List.length_cons]; simp at hle; omega) hcs.1 (call_IN F N0 hd hI hp hcs.2)
    · have hk' : kind = 3 := hk
      subst hk'
      simp only at h
      split at h
      case h_2 => cases h
      rename_i as b r hp
      obtain ⟨hj0, hjm, hle⟩ := Tl _ _ _ hr (by simp)
      split at h
      case isFalse => cases h
      rename_i hrc
      split at h
      case isFalse => cases h
      rename_i hcs
      cases h
      exact hA rfl rfl rfl hj0 hjm (by have := popN_len hp; simp only [List.length_cons]; simp at hle; omega) hcs.1 (call_SU F K0 R0 hd hI hci hp hrc hci2 hcs.2)
    · have hk' : kind = 4 := hk
      subst hk'
      simp only at h
      split at h
      case h_2 => cases h
      split at h
      case isFalse => cases h
      rename_i hcs
      cases h; exact k_objinit F hI hd hcs hA.2
  all_goals (have h9 : (none : Option Nx) = some nx := h; cases h9)
end
section
variable {i : Nat} {pc : Nat} {ls : Lo} {st : List Value} {σ : St}
def leS (σ σ' : St) : Prop := σ.2.1 ≤ σ'.2.1 ∧ σ.2.2 ≤ σ'.2.2
def nxOK (σ : St) (nx : Nx) : Prop := match nx with
  | .inl (_, _, _, σ') => leS σ σ'
  | .inr (.inl (.inl _, σ')) => leS σ σ'
  | .inr (.inl (.inr E, σ')) => leS σ σ' ∧ ∃ x, (x, E) ∈ exL
  | .inr (.inr (_, _, _, _, _, σ')) => leS σ σ'
theorem leS.rfl {σ : St} : leS σ σ := ⟨Nat.le_refl _, Nat.le_refl _⟩
theorem leS.trans {a b c : St} (h : leS a b) (h2 : leS b c) : leS a c := ⟨Nat.le_trans h.1 h2.1, Nat.le_trans h.2 h2.2⟩
theorem leS.wall {c : Cel} {k : Nat} : leS σ (wall σ c k) := ⟨Nat.le_succ _, Nat.le_add_right _ _⟩
theorem leS.wexc : leS σ (wexc σ) := ⟨Nat.le_succ _, Nat.le_add_right _ _⟩
theorem fW_le {a ci k : Nat} {v : Value} {σ' : St} (h : fW σ a ci k v = some σ') : leS σ σ' := by
  unfold fW at h
  split at h
  · split at h
    · cases h; exact leS.rfl
    · cases h
  · cases h
theorem aW_le {ok : FieldType → Bool} {a : Nat} {j : Int32} {v : Value} {σ' : St} (h : aW σ ok a j v = some σ') : leS σ σ' := by
  unfold aW at h
  split at h
  · split at h
    · cases h; exact leS.rfl
    · cases h
  · cases h
theorem aRW_le {C : String} {ci : Nat} {a : Nat} {j : Int32} {v : Nat} {σ' : St} (h : aRW σ C ci a j v = some σ') : leS σ σ' := by
  unfold aRW at h
  split at h
  · split at h
    · cases h; exact leS.rfl
    · cases h
  · cases h
theorem aC_le {a b : Nat} {sp dp n : Int32} {σ' : St} (h : aC σ a sp b dp n = some σ') : leS σ σ' := by
  unfold aC at h
  split at h
  · split at h
    · cases h; exact leS.rfl
    · cases h
  · split at h
    · cases h; exact leS.rfl
    · cases h
  · cases h
theorem aK_le {a : Nat} {σ' : St} (h : aK σ a = some σ') : leS σ σ' := by
  unfold aK at h
  split at h
  · cases h; exact leS.wall
  · cases h
theorem sem_mono {G : Glb} (T : TabOK) {q : Instr × Nat} {nx : Nx} (hq : insT i pc = some q) (h : sem G i q.1 q.2 pc ls st σ some = some nx) : nxOK σ nx := by
  obtain ⟨Td, C0, I0, Tc, Tf, Tk, Tn, Te, Ta, Tr, Tv, Ts, Tp, TW, Tz, Tj, Tq, T6⟩ := T
  obtain ⟨ins, len⟩ := q
  cases ins
  case aconst_null =>
    cases h
    exact leS.rfl
  case aload n =>
    simp only [sem] at h
    rcases sLdA_ok h with ⟨x, h1, h2⟩ | ⟨h1, h2⟩
    · cases h2; exact leS.rfl
    · cases h2; exact leS.rfl
  case aload_n n =>
    simp only [sem] at h
    rcases sLdA_ok h with ⟨x, h1, h2⟩ | ⟨h1, h2⟩
    · cases h2; exact leS.rfl
    · cases h2; exact leS.rfl
  case iload n =>
    simp only [sem] at h
    obtain ⟨x, h1, h2⟩ := sLdI_ok h
    cases h2; exact leS.rfl
  case iload_n n =>
    simp only [sem] at h
    obtain ⟨x, h1, h2⟩ := sLdI_ok h
    cases h2; exact leS.rfl
  case fload n =>
    simp only [sem] at h
    obtain ⟨x, h1, h2⟩ := sLdF_ok h
    cases h2; exact leS.rfl
  case fload_n n =>
    simp only [sem] at h
    obtain ⟨x, h1, h2⟩ := sLdF_ok h
    cases h2; exact leS.rfl
  case dload n =>
    simp only [sem] at h
    obtain ⟨x, h1, h2⟩ := sLdD_ok h
    cases h2; exact leS.rfl
  case dload_n n =>
    simp only [sem] at h
    obtain ⟨x, h1, h2⟩ := sLdD_ok h
    cases h2; exact leS.rfl
  case istore n =>
    simp only [sem] at h
    obtain ⟨x, r, ls', rfl, h1, h2⟩ := sStI_ok h
    cases h2; exact leS.rfl
  case istore_n n =>
    simp only [sem] at h
    obtain ⟨x, r, ls', rfl, h1, h2⟩ := sStI_ok h
    cases h2; exact leS.rfl
  case fstore n =>
    simp only [sem] at h
    obtain ⟨x, r, ls', rfl, h1, h2⟩ := sStF_ok h
    cases h2; exact leS.rfl
  case fstore_n n =>
    simp only [sem] at h
    obtain ⟨x, r, ls', rfl, h1, h2⟩ := sStF_ok h
    cases h2; exact leS.rfl
  case astore n =>
    simp only [sem] at h
    rcases sStA_ok h with ⟨x, r, ls', rfl, h1, h2⟩ | ⟨r, ls', rfl, h1, h2⟩
    · cases h2; exact leS.rfl
    · cases h2; exact leS.rfl
  case astore_n n =>
    simp only [sem] at h
    rcases sStA_ok h with ⟨x, r, ls', rfl, h1, h2⟩ | ⟨r, ls', rfl, h1, h2⟩
    · cases h2; exact leS.rfl
    · cases h2; exact leS.rfl
  case lload n =>
    simp only [sem] at h
    obtain ⟨x, h1, h2⟩ := sLdJ_ok h
    cases h2; exact leS.rfl
  case lload_n n =>
    simp only [sem] at h
    obtain ⟨x, h1, h2⟩ := sLdJ_ok h
    cases h2; exact leS.rfl
  case lstore n =>
    simp only [sem] at h
    obtain ⟨x, r, ls', rfl, h0, hn, h1, h2⟩ := sStJ_ok h
    cases h2; exact leS.rfl
  case lstore_n n =>
    simp only [sem] at h
    obtain ⟨x, r, ls', rfl, h0, hn, h1, h2⟩ := sStJ_ok h
    cases h2; exact leS.rfl
  case ladd =>
    simp only [sem] at h
    split at h
    · cases h; exact leS.rfl
    · cases h
  case lmul =>
    simp only [sem] at h
    split at h
    · cases h; exact leS.rfl
    · cases h
  case ldc2_w x =>
    simp only [sem] at h
    split at h
    · rename_i v hv
      cases h; exact leS.rfl
    · cases h
  case checkcast x =>
    simp only [sem] at h
    split at h
    case h_2 => cases h
    rename_i z a r hz
    split at h
    case isFalse => cases h
    rename_i hb
    cases h; exact leS.rfl
  case dstore n =>
    simp only [sem] at h
    obtain ⟨x, r, ls', rfl, h0, hn, h1, h2⟩ := sStD_ok h
    cases h2; exact leS.rfl
  case iconst n =>
    cases h; exact leS.rfl
  case bipush n =>
    cases h; exact leS.rfl
  case sipush n =>
    cases h; exact leS.rfl
  case lconst n =>
    cases h; exact leS.rfl
  case fconst n =>
    simp only [sem] at h
    split at h
    · rename_i h0
      subst h0
      cases h; exact leS.rfl
    · cases h
  case dconst n =>
    simp only [sem] at h
    split at h
    · rename_i h0
      subst h0
      cases h; exact leS.rfl
    · cases h
  case iadd =>
    simp only [sem] at h
    obtain ⟨x, y, r, rfl, h2⟩ := op2_ok h
    cases h2; exact leS.rfl
  case isub =>
    simp only [sem] at h
    obtain ⟨x, y, r, rfl, h2⟩ := op2_ok h
    cases h2; exact leS.rfl
  case imul =>
    simp only [sem] at h
    obtain ⟨x, y, r, rfl, h2⟩ := op2_ok h
    cases h2; exact leS.rfl
  case iand =>
    simp only [sem] at h
    obtain ⟨x, y, r, rfl, h2⟩ := op2_ok h
    cases h2; exact leS.rfl
  case ior =>
    simp only [sem] at h
    obtain ⟨x, y, r, rfl, h2⟩ := op2_ok h
    cases h2; exact leS.rfl
  case ixor =>
    simp only [sem] at h
    obtain ⟨x, y, r, rfl, h2⟩ := op2_ok h
    cases h2; exact leS.rfl
  case ishl =>
    simp only [sem] at h
    obtain ⟨x, y, r, rfl, h2⟩ := op2_ok h
    cases h2; exact leS.rfl
  case ishr =>
    simp only [sem] at h
    obtain ⟨x, y, r, rfl, h2⟩ := op2_ok h
    cases h2; exact leS.rfl
  case iushr =>
    simp only [sem] at h
    obtain ⟨x, y, r, rfl, h2⟩ := op2_ok h
    cases h2; exact leS.rfl
  case idiv =>
    simp only [sem] at h
    split at h
    · split at h
      · cases h
      · rename_i h0
        cases h; exact leS.rfl
    · cases h
  case irem =>
    simp only [sem] at h
    split at h
    · split at h
      · cases h
      · rename_i h0
        cases h; exact leS.rfl
    · cases h
  case ineg =>
    simp only [sem] at h
    obtain ⟨x, r, rfl, h2⟩ := op1_ok h
    cases h2; exact leS.rfl
  case i2l =>
    simp only [sem] at h
    obtain ⟨x, r, rfl, h2⟩ := op1_ok h
    cases h2; exact leS.rfl
  case i2b =>
    simp only [sem] at h
    obtain ⟨x, r, rfl, h2⟩ := op1_ok h
    cases h2; exact leS.rfl
  case i2c =>
    simp only [sem] at h
    obtain ⟨x, r, rfl, h2⟩ := op1_ok h
    cases h2; exact leS.rfl
  case i2f =>
    simp only [sem] at h
    obtain ⟨x, r, rfl, h2⟩ := op1_ok h
    cases h2; exact leS.rfl
  case i2d =>
    simp only [sem] at h
    obtain ⟨x, r, rfl, h2⟩ := op1_ok h
    cases h2; exact leS.rfl
  case f2d =>
    simp only [sem] at h
    split at h
    · split at h
      · rename_i h0
        cases h; exact leS.rfl
      · cases h
    · cases h
  case ddiv =>
    simp only [sem] at h
    split at h
    · split at h
      · rename_i h0
        cases h; exact leS.rfl
      · cases h
    · cases h
  case fdiv =>
    simp only [sem] at h
    split at h
    · split at h
      · rename_i h0
        cases h; exact leS.rfl
      · cases h
    · cases h
  case lcmp =>
    simp only [sem] at h
    split at h
    · cases h; exact leS.rfl
    · cases h
  case dcmp op =>
    simp only [sem] at h
    split at h
    · cases h; exact leS.rfl
    · cases h
  case fcmp op =>
    simp only [sem] at h
    split at h
    · cases h; exact leS.rfl
    · cases h
  case dup =>
    simp only [sem] at h
    split at h
    · cases h; exact leS.rfl
    · cases h; exact leS.rfl
    · cases h
  case pop =>
    simp only [sem] at h
    split at h
    · cases h; exact leS.rfl
    · cases h; exact leS.rfl
    · cases h
  case dup_x1 =>
    simp only [sem] at h
    split at h
    · cases h; exact leS.rfl
    · cases h
  case dup2 =>
    simp only [sem] at h
    split at h
    · cases h; exact leS.rfl
    · cases h
  case iinc n z =>
    simp only [sem] at h
    split at h
    · rename_i x h1
      obtain ⟨ls', h2, h3⟩ := Option.bind_eq_some_iff.mp h
      cases h3; exact leS.rfl
    · cases h
  case goto off =>
    simp only [sem] at h
    obtain ⟨t, h1, h2⟩ := jmp_ok h
    cases h2; exact leS.rfl
  case ifCond cc off =>
    simp only [sem] at h
    split at h
    case h_2 => cases h
    rename_i x r
    obtain ⟨t, h1, h2⟩ := jmp_ok h
    cases cc with
    | eq =>
      simp only [sIf] at h2
      split at h2
      · rename_i h0
        cases h2; exact leS.rfl
      · rename_i h0
        cases h2; exact leS.rfl
    | ne =>
      simp only [sIf] at h2
      split at h2
      · rename_i h0
        cases h2; exact leS.rfl
      · rename_i h0
        cases h2; exact leS.rfl
    | lt =>
      simp only [sIf] at h2
      split at h2
      · rename_i h0
        cases h2; exact leS.rfl
      · rename_i h0
        cases h2; exact leS.rfl
    | ge =>
      simp only [sIf] at h2
      split at h2
      · rename_i h0
        cases h2; exact leS.rfl
      · rename_i h0
        cases h2; exact leS.rfl
    | gt =>
      simp only [sIf] at h2
      split at h2
      · rename_i h0
        cases h2; exact leS.rfl
      · rename_i h0
        cases h2; exact leS.rfl
    | le =>
      simp only [sIf] at h2
      split at h2
      · rename_i h0
        cases h2; exact leS.rfl
      · rename_i h0
        cases h2; exact leS.rfl
  case if_icmp cc off =>
    simp only [sem] at h
    split at h
    case h_2 => cases h
    rename_i x r
    obtain ⟨t, h1, h2⟩ := jmp_ok h
    cases cc with
    | eq =>
      simp only [sCmp] at h2
      split at h2
      · rename_i h0
        cases h2; exact leS.rfl
      · rename_i h0
        cases h2; exact leS.rfl
    | ne =>
      simp only [sCmp] at h2
      split at h2
      · rename_i h0
        cases h2; exact leS.rfl
      · rename_i h0
        cases h2; exact leS.rfl
    | lt =>
      simp only [sCmp] at h2
      split at h2
      · rename_i h0
        cases h2; exact leS.rfl
      · rename_i h0
        cases h2; exact leS.rfl
    | ge =>
      simp only [sCmp] at h2
      split at h2
      · rename_i h0
        cases h2; exact leS.rfl
      · rename_i h0
        cases h2; exact leS.rfl
    | gt =>
      simp only [sCmp] at h2
      split at h2
      · rename_i h0
        cases h2; exact leS.rfl
      · rename_i h0
        cases h2; exact leS.rfl
    | le =>
      simp only [sCmp] at h2
      split at h2
      · rename_i h0
        cases h2; exact leS.rfl
      · rename_i h0
        cases h2; exact leS.rfl
  case if_acmp cc off =>
    simp only [sem] at h
    split at h
    case h_2 => cases h
    obtain ⟨t, h1, h2⟩ := jmp_ok h
    cases cc with
    | eq =>
      simp only at h2
      split at h2
      · rename_i h0
        cases h2; exact leS.rfl
      · rename_i h0
        cases h2; exact leS.rfl
    | ne =>
      simp only at h2
      split at h2
      · rename_i h0
        cases h2; exact leS.rfl
      · rename_i h0
        cases h2; exact leS.rfl
  case ifnull off =>
    simp only [sem] at h
    split at h
    · obtain ⟨t, h1, h2⟩ := jmp_ok h
      cases h2; exact leS.rfl
    · cases h; exact leS.rfl
    · cases h
  case ifnonnull off =>
    simp only [sem] at h
    split at h
    · obtain ⟨t, h1, h2⟩ := jmp_ok h
      cases h2; exact leS.rfl
    · cases h; exact leS.rfl
    · cases h
  case tableswitch dflt lo hi offs =>
    simp only [sem] at h
    split at h
    case h_2 => cases h
    unfold sSw at h
    split at h
    · rename_i h0
      obtain ⟨t, h1, h2⟩ := jmp_ok h
      cases h2; exact leS.rfl
    · rename_i h0
      split at h
      · rename_i off ho
        obtain ⟨t, h1, h2⟩ := jmp_ok h
        cases h2; exact leS.rfl
      · cases h
  case getfield x =>
    simp only [sem] at h
    split at h
    case h_2 => cases h
    rename_i ci f ty a r hr
    rcases Tf _ _ _ _ _ hr with h3 | h3
    · have hlt : ci < 100 := h3.choose_spec.2.1
      rw [ble_f hlt] at h
      simp only [cond_false] at h
      cases h6 : Nat.beq ci 6 with
      | true =>
        rw [h6] at h
        obtain rfl := Nat.eq_of_beq_eq_true h6
        simp only [cond_true] at h
        split at h
        · obtain ⟨v, h1, h2⟩ := gI_ok h
          cases h2
          exact leS.rfl
        · obtain ⟨v, h1, h2⟩ := gR_ok h
          cases h2
          exact leS.rfl
      | false =>
        rw [h6] at h
        simp only [cond_false] at h
        split at h
        · obtain ⟨v, h1, h2⟩ := Option.bind_eq_some_iff.mp h
          cases h2
          exact leS.rfl
        · obtain ⟨v, h1, h2⟩ := Option.bind_eq_some_iff.mp h
          cases h2
          exact leS.rfl
    · rw [ble_t h3.1] at h
      simp only [cond_true] at h
      split at h
      · obtain ⟨v, h1, h2⟩ := gI_ok h
        cases h2
        exact leS.rfl
      · obtain ⟨v, h1, h2⟩ := gR_ok h
        cases h2
        exact leS.rfl
  case putfield x =>
    simp only [sem] at h
    split at h
    case h_2 => cases h
    rename_i ci f ty v a r hr
    split at h
    case isFalse => cases h
    rename_i hfit
    split at h
    case isFalse => cases h
    rename_i hpf
    obtain ⟨σ', h1, h2⟩ := Option.bind_eq_some_iff.mp h
    cases h2
    rcases Tf _ _ _ _ _ hr with h3 | h3
    · exact fW_le h1
    · unfold pfOK at hpf; rw [h3.2.2.1] at hpf; cases hpf
  case getstatic x =>
    simp only [sem] at h
    obtain ⟨v, h1, h2⟩ := gS_ok h
    cases h2; exact leS.rfl
  case ldc x =>
    simp only [sem] at h
    split at h
    · rename_i v hv
      cases h; exact leS.rfl
    · obtain ⟨v, h1, h2⟩ := gS_ok h
      cases h2; exact leS.rfl
  case ldc_w x =>
    simp only [sem] at h
    split at h
    · rename_i v hv
      cases h; exact leS.rfl
    · obtain ⟨v, h1, h2⟩ := gS_ok h
      cases h2; exact leS.rfl
  case new x =>
    simp only [sem] at h
    split at h
    · rename_i ci fs hr
      cases h; exact leS.wall
    · rename_i hr
      split at h
      · rename_i E hE
        split at h
        · rename_i hs
          cases h
          obtain ⟨h3, h4⟩ := Te _ _ _ _ _ hq hr hE
          exact ⟨leS.wexc, x, h3⟩
        · cases h
      · cases h
  case newarray ty =>
    simp only [sem] at h
    split at h
    case h_2 => cases h
    rename_i n r
    split at h
    case isTrue => cases h
    rename_i h0
    have hna : naT ty = true := by cases hh : naT ty with
                                    | true => rfl
                                    | false => exact absurd (Or.inr (Or.inr hh)) h0
    cases h; exact leS.wall
  case anewarray x =>
    simp only [sem] at h
    split at h
    case h_2 => cases h
    rename_i C n r hr
    split at h
    case isTrue => cases h
    rename_i h0
    obtain ⟨rfl, hw⟩ := Tr _ _ _ hr
    cases h; exact leS.wall
  case arraylength =>
    simp only [sem] at h
    split at h
    case h_2 => cases h
    obtain ⟨v, h1, h2⟩ := Option.bind_eq_some_iff.mp h
    cases h2; exact leS.rfl
  case iaload =>
    simp only [sem] at h
    split at h
    case h_2 => cases h
    obtain ⟨v, h1, h2⟩ := Option.bind_eq_some_iff.mp h
    cases h2; exact leS.rfl
  case caload =>
    simp only [sem] at h
    split at h
    case h_2 => cases h
    obtain ⟨v, h1, h2⟩ := Option.bind_eq_some_iff.mp h
    cases h2; exact leS.rfl
  case baload =>
    simp only [sem] at h
    split at h
    case h_2 => cases h
    obtain ⟨v, h1, h2⟩ := Option.bind_eq_some_iff.mp h
    cases h2; exact leS.rfl
  case laload =>
    simp only [sem] at h
    split at h
    case h_2 => cases h
    obtain ⟨v, h1, h2⟩ := Option.bind_eq_some_iff.mp h
    cases h2; exact leS.rfl
  case daload =>
    simp only [sem] at h
    split at h
    case h_2 => cases h
    obtain ⟨v, h1, h2⟩ := Option.bind_eq_some_iff.mp h
    cases h2; exact leS.rfl
  case aaload =>
    simp only [sem] at h
    split at h
    case h_2 => cases h
    obtain ⟨v, h1, h2⟩ := Option.bind_eq_some_iff.mp h
    cases h2; exact leS.rfl
  case iastore =>
    simp only [sem] at h
    split at h
    case h_2 => cases h
    obtain ⟨σ', h1, h2⟩ := Option.bind_eq_some_iff.mp h
    cases h2; exact aW_le h1
  case castore =>
    simp only [sem] at h
    split at h
    case h_2 => cases h
    obtain ⟨σ', h1, h2⟩ := Option.bind_eq_some_iff.mp h
    cases h2; exact aW_le h1
  case bastore =>
    simp only [sem] at h
    split at h
    case h_2 => cases h
    obtain ⟨σ', h1, h2⟩ := Option.bind_eq_some_iff.mp h
    cases h2; exact aW_le h1
  case lastore =>
    simp only [sem] at h
    split at h
    case h_2 => cases h
    obtain ⟨σ', h1, h2⟩ := Option.bind_eq_some_iff.mp h
    cases h2; exact aW_le h1
  case dastore =>
    simp only [sem] at h
    split at h
    case h_2 => cases h
    obtain ⟨σ', h1, h2⟩ := Option.bind_eq_some_iff.mp h
    cases h2; exact aW_le h1
  case aastore =>
    simp only [sem] at h
    split at h
    case h_2 => cases h
    obtain ⟨σ', h1, h2⟩ := Option.bind_eq_some_iff.mp h
    cases h2; exact aRW_le h1
  case ireturn =>
    simp only [sem] at h
    split at h
    case h_2 => cases h
    rename_i x ty hr
    split at h
    case isFalse => cases h
    split at h
    case isFalse => cases h
    rename_i hf
    cases h; exact leS.rfl
  case areturn =>
    simp only [sem] at h
    split at h
    · rename_i hr
      cases h; exact leS.rfl
    · rename_i hr
      cases h; exact leS.rfl
    · rename_i hr
      cases h; exact leS.rfl
    · cases h
  case freturn =>
    simp only [sem] at h
    split at h
    · rename_i hr
      cases h; exact leS.rfl
    · cases h
  case dreturn =>
    simp only [sem] at h
    split at h
    · rename_i hr
      cases h; exact leS.rfl
    · cases h
  case lreturn =>
    simp only [sem] at h
    split at h
    · rename_i hr
      cases h; exact leS.rfl
    · cases h
  case return_ =>
    simp only [sem] at h
    split at h
    · rename_i hr
      cases h; exact leS.rfl
    · cases h
  case dstore_n n =>
    simp only [sem] at h
    exact absurd hq (Tz i pc n len)
  case invokevirtual x =>
    simp only [sem] at h
    unfold sInv at h
    split at h
    case h_1 => cases h
    rename_i kind j n ci hr
    have hI := Tv _ _ _ _ _ hq hr
    rcases hI with ⟨hk, hI⟩ | ⟨hk, hI⟩
    · have hk' : kind = 0 := hk
      subst hk'
      simp only at h
      split at h
      case h_2 => cases h
      rename_i as b r hp
      split at h
      case isFalse => cases h
      rename_i hrc
      split at h
      case isFalse => cases h
      rename_i hcs
      cases h
      rcases hI with hI | hI | hI
      · exact leS.rfl
      · exact leS.rfl
      · exact leS.rfl
    · have hk' : kind = 8 := hk
      subst hk'
      simp only at h
      split at h
      case h_2 => cases h
      split at h
      case isFalse => cases h
      rename_i hcs
      obtain ⟨σ', h1, h2⟩ := Option.bind_eq_some_iff.mp h
      cases h2; exact aK_le h1
  case invokestatic x =>
    simp only [sem] at h
    unfold sInv at h
    split at h
    case h_1 => cases h
    rename_i kind j n ci hr
    have hI := Ts _ _ _ _ _ hq hr
    rcases hI with ⟨hk, hI⟩ | ⟨hk, hI⟩ | ⟨hk, hI⟩ | ⟨hk, hI⟩
    · have hk' : kind = 1 := hk
      subst hk'
      simp only at h
      split at h
      case h_2 => cases h
      rename_i as r hp
      split at h
      case isFalse => cases h
      rename_i hcs
      cases h
      rcases hI with hI | hI | hI
      · exact leS.rfl
      · exact leS.rfl
      · exact leS.rfl
    · have hk' : kind = 5 := hk
      subst hk'
      simp only at h
      split at h
      case h_2 => cases h
      split at h
      case isFalse => cases h
      rename_i hcs
      obtain ⟨σ', h1, h2⟩ := Option.bind_eq_some_iff.mp h
      cases h2; exact aC_le h1
    · have hk' : kind = 6 := hk
      subst hk'
      simp only at h
      split at h
      case h_2 => cases h
      split at h
      case isFalse => cases h
      rename_i hcs
      cases h; exact leS.rfl
    · have hk' : kind = 7 := hk
      subst hk'
      simp only at h
      split at h
      case h_2 => cases h
      split at h
      case isFalse => cases h
      rename_i hcs
      cases h; exact leS.rfl
  case invokespecial x =>
    simp only [sem] at h
    unfold sInv at h
    split at h
    case h_1 => cases h
    rename_i kind j n ci hr
    have hI := Tp _ _ _ _ _ hq hr
    rcases hI with ⟨hk, hI⟩ | ⟨hk, hI, hci, hci2⟩ | ⟨hk, hI⟩
    · have hk' : kind = 2 := hk
      subst hk'
      simp only at h
      split at h
      case h_2 => cases h
      rename_i as b r hp
      split at h
      case isFalse => cases h
      rename_i hcs
      cases h
      rcases hI with hI | hI
      · exact leS.rfl
      · exact leS.rfl
    · have hk' : kind = 3 := hk
      subst hk'
      simp only at h
      split at h
      case h_2 => cases h
      rename_i as b r hp
      split at h
      case isFalse => cases h
      rename_i hrc
      split at h
      case isFalse => cases h
      rename_i hcs
      cases h
      exact leS.rfl
    · have hk' : kind = 4 := hk
      subst hk'
      simp only at h
      split at h
      case h_2 => cases h
      split at h
      case isFalse => cases h
      rename_i hcs
      cases h; exact leS.rfl
  all_goals (have h9 : (none : Option Nx) = some nx := h; cases h9)
end
