/-! ===== every simple instruction keeps the run ===== -/
set_option maxHeartbeats 1000000 in
theorem zgoal_all {D : va_G} {T : Nat → ClassId} {B0 de mi : Nat} {U0 : State} {y : Nat} {o : zOp} (hO : zok y o = true) (hs : zsort o = 0) : zGoal D T B0 de mi U0 y o := by
  obtain ⟨pc, i, n, x, v, z, ws⟩ := o
  cases i
  case aconst_null => exact zs_aconst_null hO
  case iadd => exact zs_iadd hO
  case isub => exact zs_isub hO
  case imul => exact zs_imul hO
  case idiv => exact zs_idiv hO
  case irem => exact zs_irem hO
  case ineg => exact zs_ineg hO
  case iand => exact zs_iand hO
  case ior => exact zs_ior hO
  case ishl => exact zs_ishl hO
  case ishr => exact zs_ishr hO
  case iushr => exact zs_iushr hO
  case i2l => exact zs_i2l hO
  case lcmp => exact zs_lcmp hO
  case dup => exact zs_dup hO
  case dup_x1 => exact zs_dup_x1 hO
  case dup2 => exact zs_dup2 hO
  case pop => exact zs_pop hO
  case arraylength => exact zs_arraylength hO
  case iaload => exact zs_iaload hO
  case iastore => exact zs_iastore hO
  case aaload => exact zs_aaload hO
  case aastore => exact zs_aastore hO
  case iconst i => exact zs_iconst hO
  case bipush i => exact zs_bipush hO
  case sipush i => exact zs_sipush hO
  case ldc i => exact zs_ldc hO
  case iload_n k => exact zs_iload_n hO
  case iload k => exact zs_iload hO
  case aload_n k => exact zs_aload_n hO
  case aload k => exact zs_aload hO
  case istore_n k => exact zs_istore_n hO
  case istore k => exact zs_istore hO
  case astore_n k => exact zs_astore_n hO
  case astore k => exact zs_astore hO
  case iinc k i => exact zs_iinc hO
  case goto k => exact zs_goto hO
  case ifnull k => exact zs_ifnull hO
  case ifnonnull k => exact zs_ifnonnull hO
  case getfield k => exact zs_getfield hO
  case putfield k => exact zs_putfield hO
  case getstatic k => exact zs_getstatic hO
  case newarray k => exact zs_newarray hO
  case anewarray k => exact zs_anewarray hO
  case checkcast k => exact zs_checkcast hO
  case tableswitch a b c d => exact zs_tableswitch hO
  case ifCond c k =>
    cases c
    case eq => exact zs_ifCond_eq hO
    case ne => exact zs_ifCond_ne hO
    case lt => exact zs_ifCond_lt hO
    case ge => exact zs_ifCond_ge hO
    case gt => exact zs_ifCond_gt hO
    case le => exact zs_ifCond_le hO
  case if_icmp c k =>
    cases c
    case eq => exact zs_if_icmp_eq hO
    case ne => exact zs_if_icmp_ne hO
    case lt => exact zs_if_icmp_lt hO
    case ge => exact zs_if_icmp_ge hO
    case gt => exact zs_if_icmp_gt hO
    case le => exact zs_if_icmp_le hO
  case if_acmp c k =>
    cases c
    case eq => exact zs_if_acmp_eq hO
    case ne => exact zs_if_acmp_ne hO
  case new k => exact zs_new hO (fun h => by simp [zsort, h] at hs)
  case invokespecial k => exact zs_objInit hO (fun h => by simp [zsort, h] at hs)
  case invokevirtual k => exact zs_getClass hO (fun h => by simp [zsort, h] at hs)
  case invokestatic k => exact zs_static hO (fun h => by simp [zsort, h] at hs)
  all_goals (intro p l e R s m args below meth cc hE hC ls st μ c h; simp [zstep] at h)
