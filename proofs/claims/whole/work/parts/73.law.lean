/-! ===== the law: its start, its loop, its end ===== -/
def zLb (b h i : Nat) (v5 v6 : Option Value) : List (Option Value) := [some (.ref b), some (.ref h), some (.ref (h + 7)), some (.ref (h + 28)), some (.int (nI i)), v5, v6]
def ztg9 (j : Nat) : Nat := [144, 248, 304, 384, 452, 477, 490, 546, 602, 658, 726, 782, 886, 942, 955, 968, 981, 1037, 1050, 1063, 1119, 1175].getD j 0
section LAW
variable {b de h mi n L c i : Nat} {xs : Nat → Int32} {μ μ' μ1 : zM} {v5 v6 : Option Value} {Q : zRes → zM → Prop}
/-- the switch -/
theorem ztsw {v : Int32} {ls : List (Option Value)} (h1 : ∀ j, j < 22 → zH de mi 126 (ztg9 j) ls [] μ Q) (h2 : zH de mi 126 1188 ls [] μ Q) : zH de mi 126 40 ls [.int v] μ Q := by
  have ho : zat1 126 40 (40, .tableswitch 1148 0 21 #[104, 208, 264, 344, 412, 437, 450, 506, 562, 618, 686, 742, 846, 902, 915, 928, 941, 997, 1010, 1023, 1079, 1135], 144, 1188, 0, 0, [144, 248, 304, 384, 452, 477, 490, 546, 602, 658, 726, 782, 886, 942, 955, 968, 981, 1037, 1050, 1063, 1119, 1175]) = true := by decide +kernel
  have ho := zat1_ok ho
  by_cases q : ¬ v < 0 ∧ v.toNatClampNeg < 22
  · exact zH_step ho (by decide) (by decide) (by decide) (c := (ztg9 v.toNatClampNeg, ls, [], μ)) (if_pos q) (h1 _ q.2)
  · exact zH_step ho (by decide) (by decide) (by decide) (c := (1188, ls, [], μ)) (if_neg q) h2
theorem zlim (hL : L ≤ 3072) (hi : i ≤ 3072) : nI L - nI 6 < nI i ↔ L < i + 6 := by
  rw [Int32.lt_iff_toInt_lt, pk_sub_toInt (by omega) (by decide), nI_toInt (by omega)]
  omega
theorem zLw.J0 (lw : zLw b de h L xs c μ) (hz : 513 = c + 1 ∨ True) : zC μ ≤ 100 + 64 * c ∧ zL μ ≤ 3000 + 1700 * c := ⟨lw.2.1.2.2.2.2.1, lw.2.1.2.2.2.2.2⟩
theorem Gall (lw : zLw b de h L xs c μ) (hi : i + 5 < L) (hL : L ≤ 3072) (ih : ∀ μ' v5 v6, zLw b de h L xs (c + 1) μ' → zH de mi 126 23 (zLb b h (i + 6) v5 v6) [] μ' Q) (skip : ∀ v5 v6, zH de mi 126 23 (zLb b h (i + 6) v5 v6) [] μ Q) : ∀ j, j < 22 → zH de mi 126 (ztg9 j) (zLb b h i v5 v6) [] μ Q := by
  intro j hj
  rcases j with _ | _ | _ | _ | _ | _ | _ | _ | _ | _ | _ | _ | _ | _ | _ | _ | _ | _ | _ | _ | _ | _ | j
  · exact G0 lw hi hL ih
  · exact G1 lw hi hL ih
  · exact G2 lw hi hL ih
  · exact G3 lw hi hL ih
  · exact G4 lw hi hL ih
  · exact G5 lw hi hL ih
  · exact G6 lw hi hL ih
  · exact G7 lw hi hL ih
  · exact G8 lw hi hL ih
  · exact G9 lw hi hL ih
  · exact G10 lw hi hL ih
  · exact G11 lw hi hL ih
  · exact G12 lw hi hL ih
  · exact G13 lw hi hL ih
  · exact G14 lw hi hL ih
  · exact G15 lw hi hL ih
  · exact G16 lw hi hL ih
  · exact G17 lw hi hL ih
  · exact G18 lw hi hL ih
  · exact G19 lw hi hL ih
  · exact G20 lw hi hL ih
  · exact G21 lw hi hL ih
  · omega
/-- less than a call's room used: one call more is allowed -/
theorem zLw.up (lw : zLw b de h L xs c μ) : zLw b de h L xs (c + 1) μ := by
  obtain ⟨hb, ⟨k1, k2, k3, k4, k5, k6⟩, r⟩ := lw
  exact ⟨hb, ⟨k1, k2, k3, k4, by omega, by omega⟩, r⟩
theorem Gloop (hL : L ≤ 3072) (hend : ∀ μ', zLw b de h L xs 512 μ' → Q (.inl (some (.int (nI 1)))) μ') : ∀ d c μ v5 v6, c + d = 512 → zLw b de h L xs c μ → zH de mi 126 23 (zLb b h (6 * c) v5 v6) [] μ Q := by
  have up : ∀ d c μ, c + d = 512 → zLw b de h L xs c μ → zLw b de h L xs 512 μ := by
    intro d
    induction d with
    | zero => intro c μ e lw; obtain rfl : c = 512 := by omega
              exact lw
    | succ d ih => intro c μ e lw; exact ih (c + 1) μ (by omega) lw.up
  intro d
  induction d with
  | zero =>
    intro c μ v5 v6 e lw
    have kb := lw.2.1.2.2.1
    have z : nI L - nI 6 < nI (6 * c) := (zlim hL (by omega)).mpr (by omega)
    have g9 : 9 ≤ 14 := by decide
    show zH de mi 126 23 [some (.ref b), some (.ref h), some (.ref (h + 7)), some (.ref (h + 28)), some (.int (nI (6 * c))), v5, v6] [] μ Q
    refine k126_23 ?_; simp only [zt126_23, zt126_25, zt126_26, zt126_27, zt126_29, zt126_30, zt126_33, zt126_34, zt126_36, zt126_37, zt126_39, zt126_40, e_null, e_iconst, e_bipush, e_sipush, e_iload_n, e_iload, e_aload_n, e_aload_nN, e_aload, e_aloadN, e_istore_n, e_istore, e_astore_n, e_astore_nN, e_astore, e_astoreN, e_iinc, e_iadd, e_isub, e_imul, e_iand, e_ior, e_ishl, e_ishr, e_idiv, e_irem, e_ineg, e_i2l, e_lcmp, e_dup, e_dup_x1, e_dup2, e_pop, e_goto, e_if_eq, e_if_ne, e_if_lt, e_if_ge, e_if_gt, e_if_le, e_icmp_eq, e_icmp_ne, e_icmp_lt, e_icmp_ge, e_icmp_gt, e_icmp_le, e_acmp_eq, e_acmp_ne, e_ifnullN, e_ifnull, e_ifnonnull, e_ifnonnullN, e_getI, e_getR, e_putI, e_putZ, e_putR, e_putN, e_new, e_throw, e_newarray, e_anewarray, e_alen, e_iaload, e_iastore, e_baload, e_bastore, e_aaload, e_aastore, e_aastoreN, e_laload, e_lastore, e_cast, e_castN, e_gets, e_ldcM, e_ldcI, e_objInit, e_getC, e_mmax, e_mmin, e_mabs, e_copy, e_iret, e_zret, e_aret, e_aretN, e_ret, e_v1, e_v2, e_v3, e_v4, e_v6, e_s1, e_s3, e_s6, e_c102_1, e_c102_2, e_c102_3, e_c102_4, e_c103_1, e_c104_3, e_c104_4, e_c104_5, e_c104_6, e_c104_7, zld_0, zld_s, List.set_cons_succ, List.set_cons_zero, List.length_cons, List.length_nil, Nat.reduceAdd, Nat.reduceLT, Nat.reduceLeDiff, Nat.reduceEqDiff, Nat.zero_add, true_and, and_true, and_self, zcst_0, zcst_1, zcat_ref, zcat_int, zcat_null, zcat_rf, vrf_some, vrf_none, vrf_mid, ne_eq, reduceCtorEq, not_false_eq_true, not_true_eq_false, if_true, if_false, true_implies, false_implies, Option.some.injEq, Value.int.injEq, Value.ref.injEq, Value.long.injEq, implies_true, Nat.succ_ne_self, Nat.reduceMul, zI_sI, zI_sR, zR_sI, zR_sR, zK_sI, zK_sR, zret_some, zret_none, zret_thrown, List.cons_append, List.nil_append, Option.toList, or_self, or_false, false_or, true_or, or_true, zK_mI, zR_mI, nI_add, kb, z, Nat.reduceLeDiff]
    refine k126_1194 ?_; simp only [zt126_1194, zt126_1195, e_null, e_iconst, e_bipush, e_sipush, e_iload_n, e_iload, e_aload_n, e_aload_nN, e_aload, e_aloadN, e_istore_n, e_istore, e_astore_n, e_astore_nN, e_astore, e_astoreN, e_iinc, e_iadd, e_isub, e_imul, e_iand, e_ior, e_ishl, e_ishr, e_idiv, e_irem, e_ineg, e_i2l, e_lcmp, e_dup, e_dup_x1, e_dup2, e_pop, e_goto, e_if_eq, e_if_ne, e_if_lt, e_if_ge, e_if_gt, e_if_le, e_icmp_eq, e_icmp_ne, e_icmp_lt, e_icmp_ge, e_icmp_gt, e_icmp_le, e_acmp_eq, e_acmp_ne, e_ifnullN, e_ifnull, e_ifnonnull, e_ifnonnullN, e_getI, e_getR, e_putI, e_putZ, e_putR, e_putN, e_new, e_throw, e_newarray, e_anewarray, e_alen, e_iaload, e_iastore, e_baload, e_bastore, e_aaload, e_aastore, e_aastoreN, e_laload, e_lastore, e_cast, e_castN, e_gets, e_ldcM, e_ldcI, e_objInit, e_getC, e_mmax, e_mmin, e_mabs, e_copy, e_iret, e_zret, e_aret, e_aretN, e_ret, e_v1, e_v2, e_v3, e_v4, e_v6, e_s1, e_s3, e_s6, e_c102_1, e_c102_2, e_c102_3, e_c102_4, e_c103_1, e_c104_3, e_c104_4, e_c104_5, e_c104_6, e_c104_7, zld_0, zld_s, List.set_cons_succ, List.set_cons_zero, List.length_cons, List.length_nil, Nat.reduceAdd, Nat.reduceLT, Nat.reduceLeDiff, Nat.reduceEqDiff, Nat.zero_add, true_and, and_true, and_self, zcst_0, zcst_1, zcat_ref, zcat_int, zcat_null, zcat_rf, vrf_some, vrf_none, vrf_mid, ne_eq, reduceCtorEq, not_false_eq_true, not_true_eq_false, if_true, if_false, true_implies, false_implies, Option.some.injEq, Value.int.injEq, Value.ref.injEq, Value.long.injEq, implies_true, Nat.succ_ne_self, Nat.reduceMul, zI_sI, zI_sR, zR_sI, zR_sR, zK_sI, zK_sR, zret_some, zret_none, zret_thrown, List.cons_append, List.nil_append, Option.toList, or_self, or_false, false_or, true_or, or_true, zK_mI, zR_mI, nI_add, n1t]
    exact hend μ (up 0 c μ e lw)
  | succ d ih =>
    intro c μ v5 v6 e lw
    have kb := lw.2.1.2.2.1
    have ib := lw.2.1.2.2.2.1
    by_cases lt : 6 * c + 5 < L
    · have z : ¬ nI L - nI 6 < nI (6 * c) := fun q => by have := (zlim hL (by omega)).mp q; omega
      have p0 : ¬ nI (6 * c) < 0 := nI_pos (by omega)
      have q0 : (nI (6 * c)).toNatClampNeg = 6 * c := nI_clamp (by omega)
      have l0 : 6 * c < L := by omega
      have ih2 : ∀ μ' v5 v6, zLw b de h L xs (c + 1) μ' → zH de mi 126 23 (zLb b h (6 * c + 6) v5 v6) [] μ' Q := fun μ' v5 v6 lw' => by
        have := ih (c + 1) μ' v5 v6 (by omega) lw'
        rwa [show 6 * (c + 1) = 6 * c + 6 by omega] at this
      show zH de mi 126 23 [some (.ref b), some (.ref h), some (.ref (h + 7)), some (.ref (h + 28)), some (.int (nI (6 * c))), v5, v6] [] μ Q
      refine zx_sound (List.take 11 zt126_23) 23 _ _ _ (by decide +kernel) ?_; simp only [List.take_succ_cons, List.take_zero, zx_nil, zt126_23, zt126_25, zt126_26, zt126_27, zt126_29, zt126_30, zt126_33, zt126_34, zt126_36, zt126_37, zt126_39, e_null, e_iconst, e_bipush, e_sipush, e_iload_n, e_iload, e_aload_n, e_aload_nN, e_aload, e_aloadN, e_istore_n, e_istore, e_astore_n, e_astore_nN, e_astore, e_astoreN, e_iinc, e_iadd, e_isub, e_imul, e_iand, e_ior, e_ishl, e_ishr, e_idiv, e_irem, e_ineg, e_i2l, e_lcmp, e_dup, e_dup_x1, e_dup2, e_pop, e_goto, e_if_eq, e_if_ne, e_if_lt, e_if_ge, e_if_gt, e_if_le, e_icmp_eq, e_icmp_ne, e_icmp_lt, e_icmp_ge, e_icmp_gt, e_icmp_le, e_acmp_eq, e_acmp_ne, e_ifnullN, e_ifnull, e_ifnonnull, e_ifnonnullN, e_getI, e_getR, e_putI, e_putZ, e_putR, e_putN, e_new, e_throw, e_newarray, e_anewarray, e_alen, e_iaload, e_iastore, e_baload, e_bastore, e_aaload, e_aastore, e_aastoreN, e_laload, e_lastore, e_cast, e_castN, e_gets, e_ldcM, e_ldcI, e_objInit, e_getC, e_mmax, e_mmin, e_mabs, e_copy, e_iret, e_zret, e_aret, e_aretN, e_ret, e_v1, e_v2, e_v3, e_v4, e_v6, e_s1, e_s3, e_s6, e_c102_1, e_c102_2, e_c102_3, e_c102_4, e_c103_1, e_c104_3, e_c104_4, e_c104_5, e_c104_6, e_c104_7, zld_0, zld_s, List.set_cons_succ, List.set_cons_zero, List.length_cons, List.length_nil, Nat.reduceAdd, Nat.reduceLT, Nat.reduceLeDiff, Nat.reduceEqDiff, Nat.zero_add, true_and, and_true, and_self, zcst_0, zcst_1, zcat_ref, zcat_int, zcat_null, zcat_rf, vrf_some, vrf_none, vrf_mid, ne_eq, reduceCtorEq, not_false_eq_true, not_true_eq_false, if_true, if_false, true_implies, false_implies, Option.some.injEq, Value.int.injEq, Value.ref.injEq, Value.long.injEq, implies_true, Nat.succ_ne_self, Nat.reduceMul, zI_sI, zI_sR, zR_sI, zR_sR, zK_sI, zK_sR, zret_some, zret_none, zret_thrown, List.cons_append, List.nil_append, Option.toList, or_self, or_false, false_or, true_or, or_true, zK_mI, zR_mI, nI_add, kb, ib, z, p0, q0, l0, Nat.reduceLeDiff]
      exact ztsw (Gall lw lt hL ih2 (fun v5 v6 => ih2 μ v5 v6 lw.up)) (G1188 (by omega) (fun v5 v6 => ih2 μ v5 v6 lw.up))
    · have z : nI L - nI 6 < nI (6 * c) := (zlim hL (by omega)).mpr (by omega)
      show zH de mi 126 23 [some (.ref b), some (.ref h), some (.ref (h + 7)), some (.ref (h + 28)), some (.int (nI (6 * c))), v5, v6] [] μ Q
      refine k126_23 ?_; simp only [zt126_23, zt126_25, zt126_26, zt126_27, zt126_29, zt126_30, zt126_33, zt126_34, zt126_36, zt126_37, zt126_39, zt126_40, e_null, e_iconst, e_bipush, e_sipush, e_iload_n, e_iload, e_aload_n, e_aload_nN, e_aload, e_aloadN, e_istore_n, e_istore, e_astore_n, e_astore_nN, e_astore, e_astoreN, e_iinc, e_iadd, e_isub, e_imul, e_iand, e_ior, e_ishl, e_ishr, e_idiv, e_irem, e_ineg, e_i2l, e_lcmp, e_dup, e_dup_x1, e_dup2, e_pop, e_goto, e_if_eq, e_if_ne, e_if_lt, e_if_ge, e_if_gt, e_if_le, e_icmp_eq, e_icmp_ne, e_icmp_lt, e_icmp_ge, e_icmp_gt, e_icmp_le, e_acmp_eq, e_acmp_ne, e_ifnullN, e_ifnull, e_ifnonnull, e_ifnonnullN, e_getI, e_getR, e_putI, e_putZ, e_putR, e_putN, e_new, e_throw, e_newarray, e_anewarray, e_alen, e_iaload, e_iastore, e_baload, e_bastore, e_aaload, e_aastore, e_aastoreN, e_laload, e_lastore, e_cast, e_castN, e_gets, e_ldcM, e_ldcI, e_objInit, e_getC, e_mmax, e_mmin, e_mabs, e_copy, e_iret, e_zret, e_aret, e_aretN, e_ret, e_v1, e_v2, e_v3, e_v4, e_v6, e_s1, e_s3, e_s6, e_c102_1, e_c102_2, e_c102_3, e_c102_4, e_c103_1, e_c104_3, e_c104_4, e_c104_5, e_c104_6, e_c104_7, zld_0, zld_s, List.set_cons_succ, List.set_cons_zero, List.length_cons, List.length_nil, Nat.reduceAdd, Nat.reduceLT, Nat.reduceLeDiff, Nat.reduceEqDiff, Nat.zero_add, true_and, and_true, and_self, zcst_0, zcst_1, zcat_ref, zcat_int, zcat_null, zcat_rf, vrf_some, vrf_none, vrf_mid, ne_eq, reduceCtorEq, not_false_eq_true, not_true_eq_false, if_true, if_false, true_implies, false_implies, Option.some.injEq, Value.int.injEq, Value.ref.injEq, Value.long.injEq, implies_true, Nat.succ_ne_self, Nat.reduceMul, zI_sI, zI_sR, zR_sI, zR_sR, zK_sI, zK_sR, zret_some, zret_none, zret_thrown, List.cons_append, List.nil_append, Option.toList, or_self, or_false, false_or, true_or, or_true, zK_mI, zR_mI, nI_add, kb, z, Nat.reduceLeDiff]
      refine k126_1194 ?_; simp only [zt126_1194, zt126_1195, e_null, e_iconst, e_bipush, e_sipush, e_iload_n, e_iload, e_aload_n, e_aload_nN, e_aload, e_aloadN, e_istore_n, e_istore, e_astore_n, e_astore_nN, e_astore, e_astoreN, e_iinc, e_iadd, e_isub, e_imul, e_iand, e_ior, e_ishl, e_ishr, e_idiv, e_irem, e_ineg, e_i2l, e_lcmp, e_dup, e_dup_x1, e_dup2, e_pop, e_goto, e_if_eq, e_if_ne, e_if_lt, e_if_ge, e_if_gt, e_if_le, e_icmp_eq, e_icmp_ne, e_icmp_lt, e_icmp_ge, e_icmp_gt, e_icmp_le, e_acmp_eq, e_acmp_ne, e_ifnullN, e_ifnull, e_ifnonnull, e_ifnonnullN, e_getI, e_getR, e_putI, e_putZ, e_putR, e_putN, e_new, e_throw, e_newarray, e_anewarray, e_alen, e_iaload, e_iastore, e_baload, e_bastore, e_aaload, e_aastore, e_aastoreN, e_laload, e_lastore, e_cast, e_castN, e_gets, e_ldcM, e_ldcI, e_objInit, e_getC, e_mmax, e_mmin, e_mabs, e_copy, e_iret, e_zret, e_aret, e_aretN, e_ret, e_v1, e_v2, e_v3, e_v4, e_v6, e_s1, e_s3, e_s6, e_c102_1, e_c102_2, e_c102_3, e_c102_4, e_c103_1, e_c104_3, e_c104_4, e_c104_5, e_c104_6, e_c104_7, zld_0, zld_s, List.set_cons_succ, List.set_cons_zero, List.length_cons, List.length_nil, Nat.reduceAdd, Nat.reduceLT, Nat.reduceLeDiff, Nat.reduceEqDiff, Nat.zero_add, true_and, and_true, and_self, zcst_0, zcst_1, zcat_ref, zcat_int, zcat_null, zcat_rf, vrf_some, vrf_none, vrf_mid, ne_eq, reduceCtorEq, not_false_eq_true, not_true_eq_false, if_true, if_false, true_implies, false_implies, Option.some.injEq, Value.int.injEq, Value.ref.injEq, Value.long.injEq, implies_true, Nat.succ_ne_self, Nat.reduceMul, zI_sI, zI_sR, zR_sI, zR_sR, zK_sI, zK_sR, zret_some, zret_none, zret_thrown, List.cons_append, List.nil_append, Option.toList, or_self, or_false, false_or, true_or, or_true, zK_mI, zR_mI, nI_add, n1t]
      exact hend μ (up (d + 1) c μ e lw)
/-- the rows of a new model -/
def zs0 (f k : Nat) : Int32 := if f = 13 ∧ k = 0 then -nI 1 else 0
theorem zs0_0 {f k : Nat} (h : f ≠ 13) : zs0 f k = 0 := if_neg (fun q => h q.1)
theorem zs0_IA : zIA zs0 0 := by
  have e : ∀ f k, f ≠ 13 → zs0 f k = nI 0 := fun f k hf => zs0_0 hf
  refine ⟨⟨e 0 0 (by decide), by decide⟩, ⟨fun k hk => absurd hk (Nat.not_lt_zero k), fun j hj => absurd hj (Nat.not_lt_zero j)⟩, fun j hj => absurd hj (Nat.not_lt_zero j), fun s _ => Or.inl (zs0_0 (by decide)), ⟨Or.inl (if_pos ⟨rfl, rfl⟩), 0, Nat.le_refl 0, e 14 0 (by decide)⟩, fun k hk => absurd hk (Nat.not_lt_zero k), ⟨fun k hk => absurd hk (Nat.not_lt_zero k), fun s s' _ _ q => absurd (zs0_0 (by decide)) q⟩, fun k _ => ⟨zs0_0 (by decide), zs0_0 (by decide)⟩, fun k hk => absurd hk (Nat.not_lt_zero k), ⟨fun k hk => absurd hk (Nat.not_lt_zero k), fun j hj => absurd hj (Nat.not_lt_zero j)⟩, fun k hk => absurd hk (Nat.not_lt_zero k), Nat.zero_le 8, fun i _ hi => absurd hi (Nat.not_lt_zero i), fun s _ => ⟨0, Nat.le_refl 0, e 12 s (by decide)⟩, fun k hk => absurd hk (Nat.not_lt_zero k)⟩
theorem zs0_IB : zIB zs0 0 := by
  have e : ∀ f k, f ≠ 13 → zs0 f k = nI 0 := fun f k hf => zs0_0 hf
  exact ⟨⟨0, by decide, e 17 0 (by decide), fun k hk => absurd hk (Nat.not_lt_zero k)⟩, ⟨0, by decide, e 16 0 (by decide)⟩, ⟨0, by decide, e 23 0 (by decide), fun k hk => absurd hk (Nat.not_lt_zero k)⟩, ⟨0, by decide, e 26 0 (by decide)⟩⟩
theorem zfo13 : ∀ j, j ≤ 20 → zfo j ≠ 13 := by decide +kernel
/-- the law's memory at its first call -/
theorem zfirst {sz : Nat} {ma mb mc : zM} (h1 : b ≠ de) (h2 : b < sz) (h3 : de < sz) (s1 : zH0 de sz (znew (zmem0 b de L sz xs) 7 0 6) ma) (s2 : zMs (znew ma 8 0 28) (sz + 7) 20 (fun k => if k = 13 then -nI 1 else 0) mb) (e3 : mc = znew mb 13 1 1) : zLw b de sz L xs 0 mc := by
  obtain ⟨a1, a2, a3, a4, a5, a6, a7, a8, a9, a10, a11⟩ := s1
  obtain ⟨b1, b2, b3, b4, b5, b6, b7, b8, b9⟩ := s2
  have sb : zS mb = sz + 28 := by omega
  have K0 : ∀ a, a < sz → zK ma a = if a = b then (14, L) else if a = de then (15, 0) else (0, 0) := fun a ha => (a2 a ha).1.trans (if_neg (show ¬ a = sz by omega))
  have KA : ∀ a, a < sz + 7 → zK mc a = zK ma a := fun a ha => by
    rw [e3, zK_new, if_neg (by omega), b3 a (by omega)]
    exact if_neg (by omega)
  have IA : ∀ a, a < sz + 7 → zI mc a = zI ma a := fun a ha => by
    rw [e3]; funext k; rw [zI_new, if_neg (by omega), (b5 a ha).1]
    exact if_neg (by omega)
  have RA : ∀ a, a < sz + 7 → zR mc a = zR ma a := fun a ha => by
    rw [e3]; funext k; rw [zR_new, if_neg (by omega), (b5 a ha).2]
    exact if_neg (by omega)
  have KM : zK mc (sz + 7) = (8, 0) := by
    rw [e3, zK_new, if_neg (by omega), b3 _ (Nat.le_refl _), zK_new, if_pos (by omega)]
  have mk : zMK mc (sz + 7) := by
    refine ⟨KM, fun j q1 q2 => ?_⟩
    have := b2 j q1 q2
    rw [e3]
    refine ⟨?_, ?_⟩
    · rw [zR_new, if_neg (by omega)]; exact this.1
    · rw [zK_new, if_neg (by omega)]; exact this.2
  have KO : zK mc (sz + 28) = (13, 1) := by rw [e3, zK_new, if_pos (by omega)]
  have KZ : ∀ a, sz + 29 ≤ a → zK mc a = (0, 0) := fun a ha => by rw [e3, zK_new, if_neg (by omega)]; exact b4 a (by omega)
  have md : zMd sz mc := by
    intro a q1 q2
    by_cases q : a = sz + 7
    · rw [q, KM]; decide
    · have := (mk.2 (a - (sz + 7)) (by omega) (by omega)).2
      rw [show sz + 7 + (a - (sz + 7)) = a by omega] at this
      rw [this]
      unfold zkl
      simp only
      split <;> omega
  have pt : zPt sz mc := by
    unfold zPt
    rw [KA sz (by omega), RA sz (by omega), KA (sz + 2) (by omega), RA (sz + 2) (by omega), KA (sz + 3) (by omega), KA (sz + 4) (by omega)]
    exact a3
  have one : ∀ l, (zK mc l).1 = 1 → zR mc l 1 = some de := by
    intro l q
    by_cases c1 : l < sz
    · rw [KA l (by omega), K0 l c1] at q
      by_cases d1 : l = b
      · rw [if_pos d1] at q; exact absurd (show (14 : Nat) = 1 from q) (by decide)
      · rw [if_neg d1] at q
        by_cases d2 : l = de
        · rw [if_pos d2] at q; exact absurd q (by decide)
        · rw [if_neg d2] at q; exact absurd q (by decide)
    by_cases c2 : l < sz + 7
    · rw [RA l c2]
      by_cases d1 : l = sz + 1
      · rw [d1]; exact a6.1
      by_cases d5 : l = sz + 5
      · rw [d5]; exact a6.2.1
      by_cases d6 : l = sz + 6
      · rw [d6]; exact a6.2.2
      exfalso
      unfold zPt at pt
      by_cases d0 : l = sz
      · rw [d0, pt.1] at q; exact absurd q (by decide)
      by_cases d2 : l = sz + 2
      · rw [d2, pt.2.2.2.2.2.1] at q; exact absurd q (by decide)
      by_cases d3 : l = sz + 3
      · rw [d3, pt.2.2.2.2.2.2.2.2.1] at q; exact absurd q (by decide)
      by_cases d4 : l = sz + 4
      · rw [d4, pt.2.2.2.2.2.2.2.2.2] at q; exact absurd q (by decide)
      omega
    by_cases c3 : l ≤ sz + 27
    · have := md l (by omega) c3
      omega
    by_cases c4 : l = sz + 28
    · rw [c4, KO] at q; exact absurd q (by decide)
    · rw [KZ l (by omega)] at q; exact absurd q (by decide)
  have sc : zS mc = sz + 29 := by rw [e3, zS_new]; omega
  have kde : zK mc de = (15, 0) := by rw [KA de (by omega), K0 de h3, if_neg (fun q => h1 q.symm), if_pos rfl]
  have kb : zK mc b = (14, L) := by rw [KA b (by omega), K0 b h2, if_pos rfl]
  have ib : ∀ k, zI mc b k = xs k := fun k => by
    rw [IA b (by omega), (a2 b h2).2.1, zI_new]
    exact (if_neg (show ¬ b = sz by omega)).trans (if_pos rfl)
  have bs : zBs de sz mc := ⟨fun a ha => KZ a (by omega), h3, kde, fun l l' e q1 q2 q3 q4 => by
    rw [one l q1] at q3; cases q3; exact Or.inr rfl, fun l e q1 q3 => by rw [one l q1] at q3; cases q3; omega, by omega⟩
  have lv : ∀ l t f, zK mc l = (1, 0) → zI mc l 2 = 0 → 1 ≤ t → t ≤ 8 → zLv de sz mc l t 0 f := fun l t f q1 q2 q3 q4 => ⟨q1, q2, ⟨de, one l (by rw [q1]), Or.inl ⟨rfl, rfl⟩, fun k hk => absurd hk (Nat.not_lt_zero k)⟩, fun k hk => absurd hk (Nat.not_lt_zero k), q3, q4⟩
  have nw : znw zs0 = 0 := by unfold znw; rw [zs0_0 (by decide)]; decide
  have ns : zns zs0 = 0 := by unfold zns; rw [zs0_0 (by decide)]; decide
  have H : zHl' de sz mc zs0 0 (fun _ => 0) (fun _ => 0) (fun _ _ => 0) (fun _ => 0) (fun _ => 0) := by
    refine ⟨bs, pt, ⟨lv _ _ _ (by rw [KA _ (by omega)]; exact a4.1) (by rw [IA _ (by omega)]; exact a8.1) (by decide) (by decide), by rw [nw]; exact lv _ _ _ (by rw [KA _ (by omega)]; exact a4.2.1) (by rw [IA _ (by omega)]; exact a8.2.1) (by decide) (by decide), by rw [ns]; exact lv _ _ _ (by rw [KA _ (by omega)]; exact a4.2.2) (by rw [IA _ (by omega)]; exact a8.2.2.1) (by decide) (by decide), fun k hk => absurd hk (Nat.not_lt_zero k), fun i j hi => absurd hi (Nat.not_lt_zero i), fun i j hi => absurd hi (Nat.not_lt_zero i)⟩, fun k hk => absurd hk (Nat.not_lt_zero k), fun k hk => by rw [nw] at hk; exact absurd hk (Nat.not_lt_zero k), fun k hk => by rw [ns] at hk; exact absurd hk (Nat.not_lt_zero k), ⟨fun s hs => ⟨?_, ?_⟩, ?_⟩, ⟨?_, ?_⟩, fun k hk => absurd hk (Nat.not_lt_zero k), fun s hs h0 => absurd (zs0_0 (by decide)) h0⟩
    · rw [IA _ (by omega), zs0_0 (by decide)]; exact a9 s
    · rw [RA _ (by omega), zs0_0 (by decide), if_pos rfl]; exact a7 s
    · have : zs0 13 0 = -nI 1 := if_pos ⟨rfl, rfl⟩
      rw [IA _ (by omega), this, if_pos n1neg]; exact a8.2.2.2.2.2
    · rw [IA _ (by omega), zs0_0 (by decide)]; exact a8.2.2.2.1
    · rw [IA _ (by omega), zs0_0 (by decide)]; exact a8.2.2.2.2.1
  have e : mc = zmI mc (sz + 7) zs0 := by
    refine Prod.ext rfl (Prod.ext ?_ rfl)
    funext a k
    show zI mc a k = zI (zmI mc (sz + 7) zs0) a k
    rw [zI_mI]
    by_cases q : sz + 7 ≤ a ∧ a ≤ sz + 7 + 20
    · rw [if_pos q]
      have em : zI mc a k = zI mb a k := by rw [e3, zI_new, if_neg (by omega)]
      rw [em]
      by_cases q2 : a = sz + 7
      · rw [if_pos q2, q2, b6]
        show (if k = 13 then -nI 1 else 0) = _
        by_cases q3 : k = 13
        · rw [if_pos q3, q3]; rfl
        · rw [if_neg q3]
          by_cases q4 : zsc k = true
          · rw [if_pos q4]; exact (zs0_0 q3).symm
          · rw [if_neg q4]
      · rw [if_neg q2, b7 a (by omega) (by omega)]
        exact (zs0_0 (zfo13 _ (by omega))).symm
    · rw [if_neg q]
  refine ⟨h2, ⟨mk, KO, kb, ib, ?_, ?_⟩, zs0, 0, _, _, _, _, _, e, H, zs0_IA, zs0_IB⟩
  · have c0 : zC (znew (zmem0 b de L sz xs) 7 0 6) = 1 := rfl
    have c1 : zC (znew ma 8 0 28) = zC ma + 1 := rfl
    have c2 : zC mc = zC mb + 1 := by rw [e3]; rfl
    omega
  · have c0 : zL (znew (zmem0 b de L sz xs) 7 0 6) = 6 := rfl
    have c1 : zL (znew ma 8 0 28) = zL ma + 28 := rfl
    have c2 : zL mc = zL mb + 1 := by rw [e3]; rfl
    omega
theorem zlawH {sz : Nat} (hL : L ≤ 3072) (h1 : b ≠ de) (h2 : b < sz) (h3 : de < sz) (hend : ∀ μ', zLw b de sz L xs 512 μ' → Q (.inl (some (.int (nI 1)))) μ') : zH de mi 126 0 [some (.ref b), none, none, none, none, none, none] [] (zmem0 b de L sz xs) Q := by
  have k0 : zK (znew (zmem0 b de L sz xs) 7 0 6) sz = (7, 0) := if_pos rfl
  have z0 : ∀ a, sz < a → zK (znew (zmem0 b de L sz xs) 7 0 6) a = (0, 0) := fun a ha => (if_neg (by show ¬ a = sz; omega)).trans ((if_neg (by omega)).trans (if_neg (by omega)))
  have i0 : ∀ k, zI (znew (zmem0 b de L sz xs) 7 0 6) sz k = 0 := fun k => if_pos rfl
  have sz0 : zS (zmem0 b de L sz xs) = sz := rfl
  refine zx_sound (List.take 13 zt126_0) 0 _ _ _ (by decide +kernel) ?_; simp only [List.take_succ_cons, List.take_zero, zx_nil, zt126_0, zt126_3, zt126_4, zt126_7, zt126_8, zt126_11, zt126_12, zt126_15, zt126_16, zt126_17, zt126_19, zt126_20, zt126_21, e_null, e_iconst, e_bipush, e_sipush, e_iload_n, e_iload, e_aload_n, e_aload_nN, e_aload, e_aloadN, e_istore_n, e_istore, e_astore_n, e_astore_nN, e_astore, e_astoreN, e_iinc, e_iadd, e_isub, e_imul, e_iand, e_ior, e_ishl, e_ishr, e_idiv, e_irem, e_ineg, e_i2l, e_lcmp, e_dup, e_dup_x1, e_dup2, e_pop, e_goto, e_if_eq, e_if_ne, e_if_lt, e_if_ge, e_if_gt, e_if_le, e_icmp_eq, e_icmp_ne, e_icmp_lt, e_icmp_ge, e_icmp_gt, e_icmp_le, e_acmp_eq, e_acmp_ne, e_ifnullN, e_ifnull, e_ifnonnull, e_ifnonnullN, e_getI, e_getR, e_putI, e_putZ, e_putR, e_putN, e_new, e_throw, e_newarray, e_anewarray, e_alen, e_iaload, e_iastore, e_baload, e_bastore, e_aaload, e_aastore, e_aastoreN, e_laload, e_lastore, e_cast, e_castN, e_gets, e_ldcM, e_ldcI, e_objInit, e_getC, e_mmax, e_mmin, e_mabs, e_copy, e_iret, e_zret, e_aret, e_aretN, e_ret, e_v1, e_v2, e_v3, e_v4, e_v6, e_s1, e_s3, e_s6, e_c102_1, e_c102_2, e_c102_3, e_c102_4, e_c103_1, e_c104_3, e_c104_4, e_c104_5, e_c104_6, e_c104_7, zld_0, zld_s, List.set_cons_succ, List.set_cons_zero, List.length_cons, List.length_nil, Nat.reduceAdd, Nat.reduceLT, Nat.reduceLeDiff, Nat.reduceEqDiff, Nat.zero_add, true_and, and_true, and_self, zcst_0, zcst_1, zcat_ref, zcat_int, zcat_null, zcat_rf, vrf_some, vrf_none, vrf_mid, ne_eq, reduceCtorEq, not_false_eq_true, not_true_eq_false, if_true, if_false, true_implies, false_implies, Option.some.injEq, Value.int.injEq, Value.ref.injEq, Value.long.injEq, implies_true, Nat.succ_ne_self, Nat.reduceMul, zI_sI, zI_sR, zR_sI, zR_sR, zK_sI, zK_sR, zret_some, zret_none, zret_thrown, List.cons_append, List.nil_append, Option.toList, or_self, or_false, false_or, true_or, or_true, zK_mI, zR_mI, nI_add, sz0, Nat.zero_le, Nat.reduceLeDiff]
  refine C15 rfl k0 z0 i0 (fun ma s1 => ?_)
  have sa := s1.1
  simp only [zret_none, zx_nil, e_null, e_iconst, e_bipush, e_sipush, e_iload_n, e_iload, e_aload_n, e_aload_nN, e_aload, e_aloadN, e_istore_n, e_istore, e_astore_n, e_astore_nN, e_astore, e_astoreN, e_iinc, e_iadd, e_isub, e_imul, e_iand, e_ior, e_ishl, e_ishr, e_idiv, e_irem, e_ineg, e_i2l, e_lcmp, e_dup, e_dup_x1, e_dup2, e_pop, e_goto, e_if_eq, e_if_ne, e_if_lt, e_if_ge, e_if_gt, e_if_le, e_icmp_eq, e_icmp_ne, e_icmp_lt, e_icmp_ge, e_icmp_gt, e_icmp_le, e_acmp_eq, e_acmp_ne, e_ifnullN, e_ifnull, e_ifnonnull, e_ifnonnullN, e_getI, e_getR, e_putI, e_putZ, e_putR, e_putN, e_new, e_throw, e_newarray, e_anewarray, e_alen, e_iaload, e_iastore, e_baload, e_bastore, e_aaload, e_aastore, e_aastoreN, e_laload, e_lastore, e_cast, e_castN, e_gets, e_ldcM, e_ldcI, e_objInit, e_getC, e_mmax, e_mmin, e_mabs, e_copy, e_iret, e_zret, e_aret, e_aretN, e_ret, e_v1, e_v2, e_v3, e_v4, e_v6, e_s1, e_s3, e_s6, e_c102_1, e_c102_2, e_c102_3, e_c102_4, e_c103_1, e_c104_3, e_c104_4, e_c104_5, e_c104_6, e_c104_7, zld_0, zld_s, List.set_cons_succ, List.set_cons_zero, List.length_cons, List.length_nil, Nat.reduceAdd, Nat.reduceLT, Nat.reduceLeDiff, Nat.reduceEqDiff, Nat.zero_add, true_and, and_true, and_self, zcst_0, zcst_1, zcat_ref, zcat_int, zcat_null, zcat_rf, vrf_some, vrf_none, vrf_mid, ne_eq, reduceCtorEq, not_false_eq_true, not_true_eq_false, if_true, if_false, true_implies, false_implies, Option.some.injEq, Value.int.injEq, Value.ref.injEq, Value.long.injEq, implies_true, Nat.succ_ne_self, Nat.reduceMul, zI_sI, zI_sR, zR_sI, zR_sR, zK_sI, zK_sR, zret_some, zret_none, zret_thrown, List.cons_append, List.nil_append, Option.toList, or_self, or_false, false_or, true_or, or_true, zK_mI, zR_mI, nI_add, sa, Nat.zero_le, Nat.reduceLeDiff]
  have k1 : zK (znew ma 8 0 28) (sz + 7) = (8, 0) := if_pos sa.symm
  have z1 : ∀ a, sz + 7 < a → zK (znew ma 8 0 28) a = (0, 0) := fun a ha => (if_neg (by rw [sa]; omega)).trans (s1.2.2.2.2.1 a (by omega))
  have i1 : ∀ k, zI (znew ma 8 0 28) (sz + 7) k = 0 := fun k => if_pos sa.symm
  refine M55 (by rw [zS_new, sa]) k1 z1 i1 (fun mb s2 => ?_)
  have sb : zS mb = sz + 28 := by have := s2.1; omega
  have n1a : ¬ nI 1 < 0 := nI_pos (by decide)
  have n1b : (nI 1).toNatClampNeg = 1 := nI_clamp (by decide)
  simp only [zret_none, zx_nil, e_null, e_iconst, e_bipush, e_sipush, e_iload_n, e_iload, e_aload_n, e_aload_nN, e_aload, e_aloadN, e_istore_n, e_istore, e_astore_n, e_astore_nN, e_astore, e_astoreN, e_iinc, e_iadd, e_isub, e_imul, e_iand, e_ior, e_ishl, e_ishr, e_idiv, e_irem, e_ineg, e_i2l, e_lcmp, e_dup, e_dup_x1, e_dup2, e_pop, e_goto, e_if_eq, e_if_ne, e_if_lt, e_if_ge, e_if_gt, e_if_le, e_icmp_eq, e_icmp_ne, e_icmp_lt, e_icmp_ge, e_icmp_gt, e_icmp_le, e_acmp_eq, e_acmp_ne, e_ifnullN, e_ifnull, e_ifnonnull, e_ifnonnullN, e_getI, e_getR, e_putI, e_putZ, e_putR, e_putN, e_new, e_throw, e_newarray, e_anewarray, e_alen, e_iaload, e_iastore, e_baload, e_bastore, e_aaload, e_aastore, e_aastoreN, e_laload, e_lastore, e_cast, e_castN, e_gets, e_ldcM, e_ldcI, e_objInit, e_getC, e_mmax, e_mmin, e_mabs, e_copy, e_iret, e_zret, e_aret, e_aretN, e_ret, e_v1, e_v2, e_v3, e_v4, e_v6, e_s1, e_s3, e_s6, e_c102_1, e_c102_2, e_c102_3, e_c102_4, e_c103_1, e_c104_3, e_c104_4, e_c104_5, e_c104_6, e_c104_7, zld_0, zld_s, List.set_cons_succ, List.set_cons_zero, List.length_cons, List.length_nil, Nat.reduceAdd, Nat.reduceLT, Nat.reduceLeDiff, Nat.reduceEqDiff, Nat.zero_add, true_and, and_true, and_self, zcst_0, zcst_1, zcat_ref, zcat_int, zcat_null, zcat_rf, vrf_some, vrf_none, vrf_mid, ne_eq, reduceCtorEq, not_false_eq_true, not_true_eq_false, if_true, if_false, true_implies, false_implies, Option.some.injEq, Value.int.injEq, Value.ref.injEq, Value.long.injEq, implies_true, Nat.succ_ne_self, Nat.reduceMul, zI_sI, zI_sR, zR_sI, zR_sR, zK_sI, zK_sR, zret_some, zret_none, zret_thrown, List.cons_append, List.nil_append, Option.toList, or_self, or_false, false_or, true_or, or_true, zK_mI, zR_mI, nI_add, sb, n1a, n1b, Nat.zero_le, Nat.reduceLeDiff]
  exact Gloop hL hend 512 0 _ _ _ rfl (zfirst h1 h2 h3 s1 s2 rfl)
theorem zlaw {b de mi sz L : Nat} {xs : Nat → Int32} (hL : L ≤ 3072) (h1 : b ≠ de) (h2 : b < sz) (h3 : de < sz) : ∃ f μ', zrn zcode zX zHd de mi f mL_law 0 [some (.ref b), none, none, none, none, none, none] [] (zmem0 b de L sz xs) = some (.inl (some (.int 1)), μ') ∧ zC μ' ≤ room_1.cells ∧ zL μ' ≤ room_1.slots := by
  obtain ⟨f, r, μ', q1, q2, q3, q4⟩ := zlawH (mi := mi) (xs := xs) (Q := fun r μ' => r = .inl (some (.int 1)) ∧ zC μ' ≤ 40000 ∧ zL μ' ≤ 900000) hL h1 h2 h3 (fun μ' lw => ⟨rfl, by have := lw.2.1.2.2.2.2.1; omega, by have := lw.2.1.2.2.2.2.2; omega⟩)
  subst q2
  exact ⟨f, μ', q1, Nat.le_trans q3 (show 40000 ≤ room_1.cells by decide +kernel), Nat.le_trans q4 (show 900000 ≤ room_1.slots by decide +kernel)⟩
end LAW
