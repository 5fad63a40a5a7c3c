/-! THE SIMULATION: a run of the abstract machine is a run of the machine -/
set_option maxHeartbeats 4000000 in
theorem am_main {l : Launch} {dC : Nat → ClassId} {dI : Nat → Nat → Nat} {aC : Nat → ClassId} {ad : Nat → Nat} : ∀ (n d y pc : Nat) (ls : List Slot) (st : List Value) (s : aM) (v : Option Value) (s' : aM), am_ex n d y pc ls st s = some (v, s') → am_Go l dC dI aC ad y d v s' pc ls st s
  | 0, _, _, _, _, _, _, _, _, h => by cases h
  | n + 1, d, y, pc, ls, st, s, v, s', h => by
    have ih : ∀ pc ls st s, am_ex n d y pc ls st s = some (v, s') → am_Go l dC dI aC ad y d v s' pc ls st s := fun pc ls st s q => am_main n d y pc ls st s v s' q
    have ihc : ∀ d1 z pc ls st s v1 t, am_ex n d1 z pc ls st s = some (v1, t) → am_Go l dC dI aC ad z d1 v1 t pc ls st s := fun d1 z pc ls st s v1 t q => am_main n d1 z pc ls st s v1 t q
    rw [am_ex_un] at h
    unfold am_st at h
    cases hpg : am_pg y pc with
    | none => rw [hpg] at h; cases h
    | some e =>
      rw [hpg] at h
      have ok := am_okE hpg
      obtain ⟨i, np, a, b, c, j, k, q⟩ := e
      cases i
      case aload => exact am_q_aload ih ok h
      case aload_n => exact am_q_aload_n ih ok h
      case iload => exact am_q_iload ih ok h
      case iload_n => exact am_q_iload_n ih ok h
      case lload => exact am_q_lload ih ok h
      case lload_n => exact am_q_lload_n ih ok h
      case astore => exact am_q_astore ih ok h
      case astore_n => exact am_q_astore_n ih ok h
      case istore => exact am_q_istore ih ok h
      case istore_n => exact am_q_istore_n ih ok h
      case lstore => exact am_q_lstore ih ok h
      case lstore_n => exact am_q_lstore_n ih ok h
      case iconst => exact am_q_iconst ih ok h
      case bipush => exact am_q_bipush ih ok h
      case sipush => exact am_q_sipush ih ok h
      case ldc => exact am_q_ldc ih ok h
      case ldc_w => exact am_q_ldc_w ih ok h
      case ldc2_w => exact am_q_ldc2_w ih ok h
      case lconst => exact am_q_lconst ih ok h
      case aconst_null => exact am_q_aconst_null ih ok h
      case iadd => exact am_q_iadd ih ok h
      case isub => exact am_q_isub ih ok h
      case imul => exact am_q_imul ih ok h
      case iand => exact am_q_iand ih ok h
      case ior => exact am_q_ior ih ok h
      case ixor => exact am_q_ixor ih ok h
      case idiv => exact am_q_idiv ih ok h
      case irem => exact am_q_irem ih ok h
      case ishl => exact am_q_ishl ih ok h
      case ishr => exact am_q_ishr ih ok h
      case iushr => exact am_q_iushr ih ok h
      case ladd => exact am_q_ladd ih ok h
      case lsub => exact am_q_lsub ih ok h
      case lmul => exact am_q_lmul ih ok h
      case land => exact am_q_land ih ok h
      case lor => exact am_q_lor ih ok h
      case lxor => exact am_q_lxor ih ok h
      case ldiv => exact am_q_ldiv ih ok h
      case lrem => exact am_q_lrem ih ok h
      case lshl => exact am_q_lshl ih ok h
      case lshr => exact am_q_lshr ih ok h
      case lushr => exact am_q_lushr ih ok h
      case lcmp => exact am_q_lcmp ih ok h
      case i2l => exact am_q_i2l ih ok h
      case l2i => exact am_q_l2i ih ok h
      case i2b => exact am_q_i2b ih ok h
      case i2s => exact am_q_i2s ih ok h
      case i2c => exact am_q_i2c ih ok h
      case iinc => exact am_q_iinc ih ok h
      case dup => exact am_q_dup ih ok h
      case dup2 => exact am_q_dup2 ih ok h
      case pop => exact am_q_pop ih ok h
      case goto => exact am_q_goto ih ok h
      case ifnonnull => exact am_q_ifnonnull ih ok h
      case tableswitch => exact am_q_tableswitch ih ok h
      case lookupswitch => exact am_q_lookupswitch ih ok h
      case getfield => exact am_q_getfield ih ok h
      case putfield => exact am_q_putfield ih ok h
      case iaload => exact am_q_iaload ih ok h
      case laload => exact am_q_laload ih ok h
      case baload => exact am_q_baload ih ok h
      case aaload => exact am_q_aaload ih ok h
      case iastore => exact am_q_iastore ih ok h
      case lastore => exact am_q_lastore ih ok h
      case bastore => exact am_q_bastore ih ok h
      case aastore => exact am_q_aastore ih ok h
      case arraylength => exact am_q_arraylength ih ok h
      case newarray => exact am_q_newarray ih ok h
      case anewarray => exact am_q_anewarray ih ok h
      case new => exact am_q_new ih ok h
      case ireturn => exact am_q_ireturn ih ok h
      case lreturn => exact am_q_lreturn ih ok h
      case areturn => exact am_q_areturn ih ok h
      case return_ => exact am_q_return_ ih ok h
      case if_icmp f w => cases f
                          · exact am_q_icmp_eq ih ok h
                          · exact am_q_icmp_ne ih ok h
                          · exact am_q_icmp_lt ih ok h
                          · exact am_q_icmp_ge ih ok h
                          · exact am_q_icmp_gt ih ok h
                          · exact am_q_icmp_le ih ok h
      case ifCond f w => cases f
                         · exact am_q_if_eq ih ok h
                         · exact am_q_if_ne ih ok h
                         · exact am_q_if_lt ih ok h
                         · exact am_q_if_ge ih ok h
                         · exact am_q_if_gt ih ok h
                         · exact am_q_if_le ih ok h
      case if_acmp f w => cases f
                          · exact am_q_acmp_eq ih ok h
                          · exact am_q_acmp_ne ih ok h
      case invokestatic => exact am_q_invokestatic ihc ih ok h
      case invokevirtual => exact am_q_invokevirtual ihc ih ok h
      case invokespecial => exact am_q_invokespecial ihc ih ok h
      all_goals cases h
