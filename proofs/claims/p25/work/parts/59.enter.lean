/-! ===== settle and enter ===== -/
section ENTER
variable {de h mi n : Nat} {μ μ' : zM} {σ σ' : Nat → Nat → Int32} {A K A' K' : Nat → Nat} {B B' : Nat → Nat → Nat} {V N V' N' : Nat → Nat} {Q : zRes → zM → Prop}
theorem zOr.to {c w sd l hd hd' : Int32} (o : zOr de h μ n A K B c w sd l hd) (eK : zK μ' = zK μ) (eI : ∀ a, h + 6 < a → a ≠ A n → zI μ' a = zI μ a) (eR : ∀ a, h + 6 < a → zR μ' a = zR μ a) (ej : ∀ j, j ≠ 3 → zI μ' (A n) j = zI μ (A n) j) (e3 : zI μ' (A n) 3 = hd') : zOr de h μ' n A K B c w sd l hd' := by
  obtain ⟨o1, o2, o3, ⟨i0, i1, i3, i4, i5, i6, i7, i8, i9⟩, o5, ⟨l1, l2, ⟨e, l3, l4, l5⟩, l6, l7⟩, o7, o8⟩ := o
  have ne : K n ≠ A n := fun q => by rw [q, o1] at l1; exact absurd l1 (by decide)
  refine ⟨by rw [eK]; exact o1, o2, o3, ⟨by rw [ej 0 (by decide)]; exact i0, by rw [ej 1 (by decide)]; exact i1, e3, by rw [ej 4 (by decide)]; exact i4, by rw [ej 5 (by decide)]; exact i5, by rw [ej 6 (by decide)]; exact i6, by rw [ej 7 (by decide)]; exact i7, by rw [ej 8 (by decide)]; exact i8, by rw [ej 9 (by decide)]; exact i9⟩, by rw [eR _ o2]; exact o5, ⟨by rw [eK]; exact l1, by rw [eI _ o7 ne]; exact l2, ⟨e, by rw [eR _ o7]; exact l3, by rw [eK]; exact l4, fun k hk => absurd hk (Nat.not_lt_zero k)⟩, fun k hk => absurd hk (Nat.not_lt_zero k), l7⟩, o7, o8⟩
theorem C7 {s : Nat} {c w sd l hd : Int32} (H : zHl' de h μ σ n A K B V N) (hN : n ≤ 40) (w11 : zW11 σ n) (hs : s < 12) (f0 : zcs σ 11 s = 0) (f1 : ∀ s', s' < s → zcs σ 11 s' ≠ 0) (bf : ¬ nI n < σ 14 0) (o : zOr de h μ n A K B c w sd l hd) (hq : ∀ μ', zHl' de h μ' (zs1 (zcs σ) n s) n A K B V N → zOr de h μ' n A K B c w sd l (nI 100 * (zcs σ 12 s + nI 1) + nI s) → zKp h 0 0 μ μ' → Q (.inl none) μ') : zCall de mi 7 [.ref (h + 2), .ref (A n)] μ Q := by
  have key : ∀ μ1, zHl' de h μ1 (zcs σ) n A K B V N → zQt h μ μ1 → zH de mi 7 12 [some (.ref (h + 2)), some (.ref (A n)), none] [] μ1 Q := by
    intro μ1 H1 qt
    have hz := H1.bs.2.2.2.2.2
    have o1 : zOr de h μ1 n A K B c w sd l hd := o.to qt.1 (fun a ha _ => (qt.2.2.2.2.2 a (by omega)).1) (fun a ha => (qt.2.2.2.2.2 a (by omega)).2) (fun j _ => by rw [(qt.2.2.2.2.2 (A n) (by have := o.2.1; omega)).1]) (by rw [(qt.2.2.2.2.2 (A n) (by have := o.2.1; omega)).1]; exact o.2.2.2.1.2.2.1)
    have e14 : zcs σ 14 0 = σ 14 0 := by rw [zcs_n (by decide) (by decide)]
    have H2 := H1.settle hN (zcs_W11 w11) hs o1.1 o1.2.1 o1.2.2.1 rfl o1.2.2.2.1.2.2.2.2.2.2.2.2 (by rw [e14]; exact bf)
    refine zx_sound (List.take 2 zt7_12) 12 _ _ _ (by decide +kernel) ?_; simp only [List.take_succ_cons, List.take_zero, zx_nil, zt7_12, zt7_13, e_null, e_iconst, e_bipush, e_sipush, e_iload_n, e_iload, e_aload_n, e_aload_nN, e_aload, e_aloadN, e_istore_n, e_istore, e_astore_n, e_astore_nN, e_astore, e_astoreN, e_iinc, e_iadd, e_isub, e_imul, e_iand, e_ior, e_ishl, e_ishr, e_idiv, e_irem, e_iushr, e_ineg, e_i2l, e_lcmp, e_dup, e_dup_x1, e_dup2, e_pop, e_goto, e_if_eq, e_if_ne, e_if_lt, e_if_ge, e_if_gt, e_if_le, e_icmp_eq, e_icmp_ne, e_icmp_lt, e_icmp_ge, e_icmp_gt, e_icmp_le, e_acmp_eq, e_acmp_ne, e_ifnullN, e_ifnull, e_ifnonnull, e_ifnonnullN, e_getI, e_getR, e_putI, e_putZ, e_putR, e_putN, e_new, e_throw, e_newarray, e_anewarray, e_alen, e_iaload, e_iastore, e_aaload, e_aastore, e_aastoreN, e_cast, e_castN, e_gets, e_ldcM, e_ldcI, e_objInit, e_getC, e_mmax, e_mmin, e_mabs, e_copy, e_iret, e_zret, e_aret, e_aretN, e_ret, e_v1, e_v2, e_v3, e_v4, e_v6, e_s1, e_s3, e_s6, e_c102_0, e_c102_1, e_c102_2, e_c102_3, e_c102_4, e_c103_1, e_c104_5, e_c104_7, zld_0, zld_s, List.set_cons_succ, List.set_cons_zero, List.length_cons, List.length_nil, Nat.reduceAdd, Nat.reduceLT, Nat.reduceLeDiff, Nat.reduceEqDiff, Nat.zero_add, true_and, and_true, and_self, zcst_0, zcst_1, zcat_ref, zcat_int, zcat_null, zcat_rf, vrf_some, vrf_none, vrf_mid, ne_eq, reduceCtorEq, not_false_eq_true, not_true_eq_false, if_true, if_false, true_implies, false_implies, Option.some.injEq, Value.int.injEq, Value.ref.injEq, Value.long.injEq, implies_true, Nat.succ_ne_self, Nat.reduceMul, zI_sI, zI_sR, zR_sI, zR_sR, zK_sI, zK_sR, zret_some, zret_none, zret_thrown, List.cons_append, List.nil_append, Option.toList, or_self, or_false, false_or, true_or, or_true, nI_add]
    refine C7_14 H1 hN (zcs_W11 w11) hs f0 f1 o1.1 ?_
    have gx := o1.2.1
    refine hq _ H2 (o1.to rfl (fun a ha na => (zup_f na).trans (zup_f (by omega))) (fun a ha => zup_f (by omega)) (fun j hj => (zup_k hj).trans (congrFun (zup_f (show A n ≠ h + 4 by omega)) j)) zup_s) ?_
    have kq := qt.kp
    exact ((kq.trans (zKp.putR (h := h) (zpr_h (show 3 ≤ 6 by decide)))).trans (zKp.putI (h := h) (zpr_h (show 4 ≤ 6 by decide)))).trans (zKp.putI (h := h) (zpr_gt gx))
  show zH de mi 7 0 [some (.ref (h + 2)), some (.ref (A n)), none] [] _ _
  by_cases z : zlo σ 12 < 0
  · have e0 := zlo_neg.mp z
    refine zx_sound (List.take 6 zt7_0) 0 _ _ _ (by decide +kernel) ?_; simp only [List.take_succ_cons, List.take_zero, zx_nil, zt7_0, zt7_1, zt7_4, zt7_7, zt7_8, zt7_11, e_null, e_iconst, e_bipush, e_sipush, e_iload_n, e_iload, e_aload_n, e_aload_nN, e_aload, e_aloadN, e_istore_n, e_istore, e_astore_n, e_astore_nN, e_astore, e_astoreN, e_iinc, e_iadd, e_isub, e_imul, e_iand, e_ior, e_ishl, e_ishr, e_idiv, e_irem, e_iushr, e_ineg, e_i2l, e_lcmp, e_dup, e_dup_x1, e_dup2, e_pop, e_goto, e_if_eq, e_if_ne, e_if_lt, e_if_ge, e_if_gt, e_if_le, e_icmp_eq, e_icmp_ne, e_icmp_lt, e_icmp_ge, e_icmp_gt, e_icmp_le, e_acmp_eq, e_acmp_ne, e_ifnullN, e_ifnull, e_ifnonnull, e_ifnonnullN, e_getI, e_getR, e_putI, e_putZ, e_putR, e_putN, e_new, e_throw, e_newarray, e_anewarray, e_alen, e_iaload, e_iastore, e_aaload, e_aastore, e_aastoreN, e_cast, e_castN, e_gets, e_ldcM, e_ldcI, e_objInit, e_getC, e_mmax, e_mmin, e_mabs, e_copy, e_iret, e_zret, e_aret, e_aretN, e_ret, e_v1, e_v2, e_v3, e_v4, e_v6, e_s1, e_s3, e_s6, e_c102_0, e_c102_1, e_c102_2, e_c102_3, e_c102_4, e_c103_1, e_c104_5, e_c104_7, zld_0, zld_s, List.set_cons_succ, List.set_cons_zero, List.length_cons, List.length_nil, Nat.reduceAdd, Nat.reduceLT, Nat.reduceLeDiff, Nat.reduceEqDiff, Nat.zero_add, true_and, and_true, and_self, zcst_0, zcst_1, zcat_ref, zcat_int, zcat_null, zcat_rf, vrf_some, vrf_none, vrf_mid, ne_eq, reduceCtorEq, not_false_eq_true, not_true_eq_false, if_true, if_false, true_implies, false_implies, Option.some.injEq, Value.int.injEq, Value.ref.injEq, Value.long.injEq, implies_true, Nat.succ_ne_self, Nat.reduceMul, zI_sI, zI_sR, zR_sI, zR_sR, zK_sI, zK_sR, zret_some, zret_none, zret_thrown, List.cons_append, List.nil_append, Option.toList, or_self, or_false, false_or, true_or, or_true, nI_add, H.k2, C6 H, e0, n0t]
    refine C8x H hN w11 (fun μ1 H1 qt => ?_)
    simp only [zret_some, zx_nil, e_null, e_iconst, e_bipush, e_sipush, e_iload_n, e_iload, e_aload_n, e_aload_nN, e_aload, e_aloadN, e_istore_n, e_istore, e_astore_n, e_astore_nN, e_astore, e_astoreN, e_iinc, e_iadd, e_isub, e_imul, e_iand, e_ior, e_ishl, e_ishr, e_idiv, e_irem, e_iushr, e_ineg, e_i2l, e_lcmp, e_dup, e_dup_x1, e_dup2, e_pop, e_goto, e_if_eq, e_if_ne, e_if_lt, e_if_ge, e_if_gt, e_if_le, e_icmp_eq, e_icmp_ne, e_icmp_lt, e_icmp_ge, e_icmp_gt, e_icmp_le, e_acmp_eq, e_acmp_ne, e_ifnullN, e_ifnull, e_ifnonnull, e_ifnonnullN, e_getI, e_getR, e_putI, e_putZ, e_putR, e_putN, e_new, e_throw, e_newarray, e_anewarray, e_alen, e_iaload, e_iastore, e_aaload, e_aastore, e_aastoreN, e_cast, e_castN, e_gets, e_ldcM, e_ldcI, e_objInit, e_getC, e_mmax, e_mmin, e_mabs, e_copy, e_iret, e_zret, e_aret, e_aretN, e_ret, e_v1, e_v2, e_v3, e_v4, e_v6, e_s1, e_s3, e_s6, e_c102_0, e_c102_1, e_c102_2, e_c102_3, e_c102_4, e_c103_1, e_c104_5, e_c104_7, zld_0, zld_s, List.set_cons_succ, List.set_cons_zero, List.length_cons, List.length_nil, Nat.reduceAdd, Nat.reduceLT, Nat.reduceLeDiff, Nat.reduceEqDiff, Nat.zero_add, true_and, and_true, and_self, zcst_0, zcst_1, zcat_ref, zcat_int, zcat_null, zcat_rf, vrf_some, vrf_none, vrf_mid, ne_eq, reduceCtorEq, not_false_eq_true, not_true_eq_false, if_true, if_false, true_implies, false_implies, Option.some.injEq, Value.int.injEq, Value.ref.injEq, Value.long.injEq, implies_true, Nat.succ_ne_self, Nat.reduceMul, zI_sI, zI_sR, zR_sI, zR_sR, zK_sI, zK_sR, zret_some, zret_none, zret_thrown, List.cons_append, List.nil_append, Option.toList, or_self, or_false, false_or, true_or, or_true, nI_add]
    exact key μ1 (by unfold zcs; rw [if_pos z]; exact H1) qt
  · have e0 : ¬ zcn (zfr σ) 12 = 0 := fun q => z (zlo_neg.mpr q)
    have le := zcn_le (zfr σ) 12
    have e1 : ¬ nI (zcn (zfr σ) 12) = 0 := nI_ne0 (by omega) (by omega)
    refine k7_0 ?_; simp only [zt7_0, zt7_1, zt7_4, zt7_7, zt7_8, zt7_11, zt7_12, zt7_13, zt7_14, zt7_15, zt7_17, zt7_20, zt7_21, zt7_24, zt7_25, zt7_26, zt7_29, zt7_30, zt7_33, zt7_34, zt7_35, zt7_36, zt7_37, zt7_40, zt7_41, zt7_42, zt7_43, zt7_44, zt7_45, zt7_46, zt7_47, zt7_49, zt7_50, zt7_53, zt7_54, zt7_55, zt7_56, zt7_57, zt7_58, zt7_61, e_null, e_iconst, e_bipush, e_sipush, e_iload_n, e_iload, e_aload_n, e_aload_nN, e_aload, e_aloadN, e_istore_n, e_istore, e_astore_n, e_astore_nN, e_astore, e_astoreN, e_iinc, e_iadd, e_isub, e_imul, e_iand, e_ior, e_ishl, e_ishr, e_idiv, e_irem, e_iushr, e_ineg, e_i2l, e_lcmp, e_dup, e_dup_x1, e_dup2, e_pop, e_goto, e_if_eq, e_if_ne, e_if_lt, e_if_ge, e_if_gt, e_if_le, e_icmp_eq, e_icmp_ne, e_icmp_lt, e_icmp_ge, e_icmp_gt, e_icmp_le, e_acmp_eq, e_acmp_ne, e_ifnullN, e_ifnull, e_ifnonnull, e_ifnonnullN, e_getI, e_getR, e_putI, e_putZ, e_putR, e_putN, e_new, e_throw, e_newarray, e_anewarray, e_alen, e_iaload, e_iastore, e_aaload, e_aastore, e_aastoreN, e_cast, e_castN, e_gets, e_ldcM, e_ldcI, e_objInit, e_getC, e_mmax, e_mmin, e_mabs, e_copy, e_iret, e_zret, e_aret, e_aretN, e_ret, e_v1, e_v2, e_v3, e_v4, e_v6, e_s1, e_s3, e_s6, e_c102_0, e_c102_1, e_c102_2, e_c102_3, e_c102_4, e_c103_1, e_c104_5, e_c104_7, zld_0, zld_s, List.set_cons_succ, List.set_cons_zero, List.length_cons, List.length_nil, Nat.reduceAdd, Nat.reduceLT, Nat.reduceLeDiff, Nat.reduceEqDiff, Nat.zero_add, true_and, and_true, and_self, zcst_0, zcst_1, zcat_ref, zcat_int, zcat_null, zcat_rf, vrf_some, vrf_none, vrf_mid, ne_eq, reduceCtorEq, not_false_eq_true, not_true_eq_false, if_true, if_false, true_implies, false_implies, Option.some.injEq, Value.int.injEq, Value.ref.injEq, Value.long.injEq, implies_true, Nat.succ_ne_self, Nat.reduceMul, zI_sI, zI_sR, zR_sI, zR_sR, zK_sI, zK_sR, zret_some, zret_none, zret_thrown, List.cons_append, List.nil_append, Option.toList, or_self, or_false, false_or, true_or, or_true, nI_add, H.k2, C6 H, e1]
    exact key μ (by unfold zcs; rw [if_neg z]; exact H) zQt.refl
theorem zcm_r {s f : Nat} {c w sd l r : Int32} (h0 : f ≠ 0) (h : f < 2 ∨ 6 < f) : zcm σ n s c w sd l r f = zs1 σ n s f := by
  rw [zcm_s1, zup_f h0, zup_f (by omega), zup_f (by omega), zup_f (by omega), zup_f (by omega), zup_f (by omega)]
theorem zcm_k {s f k : Nat} {c w sd l r : Int32} (h0 : f ≠ 0) (h : k ≠ n) : zcm σ n s c w sd l r f k = zs1 σ n s f k := by
  rw [zcm_s1, zup_f h0, zup_k h, zup_k h, zup_k h, zup_k h, zup_k h]
theorem zcm_v {s : Nat} {c w sd l r : Int32} : zcm σ n s c w sd l r 2 n = c ∧ zcm σ n s c w sd l r 3 n = w ∧ zcm σ n s c w sd l r 4 n = sd ∧ zcm σ n s c w sd l r 5 n = l ∧ zcm σ n s c w sd l r 6 n = r := by
  rw [zcm_s1]
  simp [zup]
theorem zcm_7 {s f : Nat} {c w sd l r : Int32} (h : f = 7 ∨ f = 8 ∨ f = 9 ∨ f = 10 ∨ 13 ≤ f) : zcm σ n s c w sd l r f = σ f := by
  rw [zcm_r (by omega) (by omega), zs1_n (by omega) (by omega) (by omega)]
theorem C45 {s : Nat} {c w sd l hd : Int32} (H : zHl' de h μ σ n A K B V N) (hN : n < 40) (w11 : zW11 σ n) (hs : s < 12) (f0 : zcs σ 11 s = 0) (f1 : ∀ s', s' < s → zcs σ 11 s' ≠ 0) (bf : ¬ nI n < σ 14 0) (b7 : σ 7 n = 0) (b10 : σ 10 n = 0) (o : zOr de h μ n A K B c w sd l hd) (hq : ∀ μ', zHl' de h μ' (zcm (zcs σ) n s c w sd l (nI 0)) (n + 1) A K B V N → zKp h 1 70 μ μ' → Q (.inl (some (.ref (A n)))) μ') : zCall de mi 45 [.ref h, .ref (A n)] μ Q := by
  show zH de mi 45 0 [some (.ref h), some (.ref (A n))] [] _ _
  refine k45_0 ?_; simp only [zt45_0, zt45_1, zt45_4, zt45_5, zt45_8, zt45_9, zt45_12, zt45_13, zt45_16, zt45_17, zt45_18, e_null, e_iconst, e_bipush, e_sipush, e_iload_n, e_iload, e_aload_n, e_aload_nN, e_aload, e_aloadN, e_istore_n, e_istore, e_astore_n, e_astore_nN, e_astore, e_astoreN, e_iinc, e_iadd, e_isub, e_imul, e_iand, e_ior, e_ishl, e_ishr, e_idiv, e_irem, e_iushr, e_ineg, e_i2l, e_lcmp, e_dup, e_dup_x1, e_dup2, e_pop, e_goto, e_if_eq, e_if_ne, e_if_lt, e_if_ge, e_if_gt, e_if_le, e_icmp_eq, e_icmp_ne, e_icmp_lt, e_icmp_ge, e_icmp_gt, e_icmp_le, e_acmp_eq, e_acmp_ne, e_ifnullN, e_ifnull, e_ifnonnull, e_ifnonnullN, e_getI, e_getR, e_putI, e_putZ, e_putR, e_putN, e_new, e_throw, e_newarray, e_anewarray, e_alen, e_iaload, e_iastore, e_aaload, e_aastore, e_aastoreN, e_cast, e_castN, e_gets, e_ldcM, e_ldcI, e_objInit, e_getC, e_mmax, e_mmin, e_mabs, e_copy, e_iret, e_zret, e_aret, e_aretN, e_ret, e_v1, e_v2, e_v3, e_v4, e_v6, e_s1, e_s3, e_s6, e_c102_0, e_c102_1, e_c102_2, e_c102_3, e_c102_4, e_c103_1, e_c104_5, e_c104_7, zld_0, zld_s, List.set_cons_succ, List.set_cons_zero, List.length_cons, List.length_nil, Nat.reduceAdd, Nat.reduceLT, Nat.reduceLeDiff, Nat.reduceEqDiff, Nat.zero_add, true_and, and_true, and_self, zcst_0, zcst_1, zcat_ref, zcat_int, zcat_null, zcat_rf, vrf_some, vrf_none, vrf_mid, ne_eq, reduceCtorEq, not_false_eq_true, not_true_eq_false, if_true, if_false, true_implies, false_implies, Option.some.injEq, Value.int.injEq, Value.ref.injEq, Value.long.injEq, implies_true, Nat.succ_ne_self, Nat.reduceMul, zI_sI, zI_sR, zR_sI, zR_sR, zK_sI, zK_sR, zret_some, zret_none, zret_thrown, List.cons_append, List.nil_append, Option.toList, or_self, or_false, false_or, true_or, or_true, nI_add, H.kh, H.r1, H.k2]
  refine C7 H (by omega) w11 hs f0 f1 bf o (fun μ2 H2 o2 kp2 => ?_)
  have la2 := H2.la
  simp only [zret_none, e_null, e_iconst, e_bipush, e_sipush, e_iload_n, e_iload, e_aload_n, e_aload_nN, e_aload, e_aloadN, e_istore_n, e_istore, e_astore_n, e_astore_nN, e_astore, e_astoreN, e_iinc, e_iadd, e_isub, e_imul, e_iand, e_ior, e_ishl, e_ishr, e_idiv, e_irem, e_iushr, e_ineg, e_i2l, e_lcmp, e_dup, e_dup_x1, e_dup2, e_pop, e_goto, e_if_eq, e_if_ne, e_if_lt, e_if_ge, e_if_gt, e_if_le, e_icmp_eq, e_icmp_ne, e_icmp_lt, e_icmp_ge, e_icmp_gt, e_icmp_le, e_acmp_eq, e_acmp_ne, e_ifnullN, e_ifnull, e_ifnonnull, e_ifnonnullN, e_getI, e_getR, e_putI, e_putZ, e_putR, e_putN, e_new, e_throw, e_newarray, e_anewarray, e_alen, e_iaload, e_iastore, e_aaload, e_aastore, e_aastoreN, e_cast, e_castN, e_gets, e_ldcM, e_ldcI, e_objInit, e_getC, e_mmax, e_mmin, e_mabs, e_copy, e_iret, e_zret, e_aret, e_aretN, e_ret, e_v1, e_v2, e_v3, e_v4, e_v6, e_s1, e_s3, e_s6, e_c102_0, e_c102_1, e_c102_2, e_c102_3, e_c102_4, e_c103_1, e_c104_5, e_c104_7, zld_0, zld_s, List.set_cons_succ, List.set_cons_zero, List.length_cons, List.length_nil, Nat.reduceAdd, Nat.reduceLT, Nat.reduceLeDiff, Nat.reduceEqDiff, Nat.zero_add, true_and, and_true, and_self, zcst_0, zcst_1, zcat_ref, zcat_int, zcat_null, zcat_rf, vrf_some, vrf_none, vrf_mid, ne_eq, reduceCtorEq, not_false_eq_true, not_true_eq_false, if_true, if_false, true_implies, false_implies, Option.some.injEq, Value.int.injEq, Value.ref.injEq, Value.long.injEq, implies_true, Nat.succ_ne_self, Nat.reduceMul, zI_sI, zI_sR, zR_sI, zR_sR, zK_sI, zK_sR, zret_some, zret_none, zret_thrown, List.cons_append, List.nil_append, Option.toList, or_self, or_false, false_or, true_or, or_true, nI_add, H2.kh, H2.r0, la2.1]
  refine L104 H2.bs la2 o2.1 (zpr_h (show 1 ≤ 6 by decide)) (by omega) (fun μ3 b3 lv3 ad3 => ?_)
  simp only [zret_some, e_null, e_iconst, e_bipush, e_sipush, e_iload_n, e_iload, e_aload_n, e_aload_nN, e_aload, e_aloadN, e_istore_n, e_istore, e_astore_n, e_astore_nN, e_astore, e_astoreN, e_iinc, e_iadd, e_isub, e_imul, e_iand, e_ior, e_ishl, e_ishr, e_idiv, e_irem, e_iushr, e_ineg, e_i2l, e_lcmp, e_dup, e_dup_x1, e_dup2, e_pop, e_goto, e_if_eq, e_if_ne, e_if_lt, e_if_ge, e_if_gt, e_if_le, e_icmp_eq, e_icmp_ne, e_icmp_lt, e_icmp_ge, e_icmp_gt, e_icmp_le, e_acmp_eq, e_acmp_ne, e_ifnullN, e_ifnull, e_ifnonnull, e_ifnonnullN, e_getI, e_getR, e_putI, e_putZ, e_putR, e_putN, e_new, e_throw, e_newarray, e_anewarray, e_alen, e_iaload, e_iastore, e_aaload, e_aastore, e_aastoreN, e_cast, e_castN, e_gets, e_ldcM, e_ldcI, e_objInit, e_getC, e_mmax, e_mmin, e_mabs, e_copy, e_iret, e_zret, e_aret, e_aretN, e_ret, e_v1, e_v2, e_v3, e_v4, e_v6, e_s1, e_s3, e_s6, e_c102_0, e_c102_1, e_c102_2, e_c102_3, e_c102_4, e_c103_1, e_c104_5, e_c104_7, zld_0, zld_s, List.set_cons_succ, List.set_cons_zero, List.length_cons, List.length_nil, Nat.reduceAdd, Nat.reduceLT, Nat.reduceLeDiff, Nat.reduceEqDiff, Nat.zero_add, true_and, and_true, and_self, zcst_0, zcst_1, zcat_ref, zcat_int, zcat_null, zcat_rf, vrf_some, vrf_none, vrf_mid, ne_eq, reduceCtorEq, not_false_eq_true, not_true_eq_false, if_true, if_false, true_implies, false_implies, Option.some.injEq, Value.int.injEq, Value.ref.injEq, Value.long.injEq, implies_true, Nat.succ_ne_self, Nat.reduceMul, zI_sI, zI_sR, zR_sI, zR_sR, zK_sI, zK_sR, zret_some, zret_none, zret_thrown, List.cons_append, List.nil_append, Option.toList, or_self, or_false, false_or, true_or, or_true, nI_add]
  refine hq μ3 ?_ ((kp2.trans (ad3.kp H2.bs)).mono (by decide) (by decide))
  obtain ⟨o1, oA, oi, ⟨i0, i1, i3, i4, i5, i6, i7, i8, i9⟩, oR, ol, oK, ok⟩ := o2
  have kl := la2.1
  have ez : zpt A n (A n) = A := by
    funext k
    unfold zpt
    by_cases q : k = n
    · rw [if_pos q, q]
    · rw [if_neg q]
  rw [ez] at lv3
  have b := H2.bs
  have ch := ad3.cell b kl H2.kh (by decide) (by decide) (by decide)
  have c2 := ad3.cell b kl H2.k2 (by decide) (by decide) (by decide)
  have c3 := ad3.cell b kl H2.k3 (by decide) (by decide) (by decide)
  have c4 := ad3.cell b kl H2.k4 (by decide) (by decide) (by decide)
  have cA : ∀ k, k < n → zK μ3 (A k) = (2, 0) ∧ zI μ3 (A k) = zI μ2 (A k) ∧ zR μ3 (A k) = zR μ2 (A k) := fun k hk => ad3.cell b kl (H2.kA hk) (by decide) (by decide) (by decide)
  have cn := ad3.cell b kl o1 (by decide) (by decide) (by decide)
  have r : ∀ f, f ≠ 0 → (f < 2 ∨ 6 < f) → zcm (zcs σ) n s c w sd l (nI 0) f = zs1 (zcs σ) n s f := fun f a q => zcm_r a q
  have rk : ∀ f k, k < n → f ≠ 0 → zcm (zcs σ) n s c w sd l (nI 0) f k = zs1 (zcs σ) n s f k := fun f k hk a => zcm_k a (by omega)
  have z7 : zcm (zcs σ) n s c w sd l (nI 0) 7 = σ 7 := by rw [zcm_7 (by omega), zcs_n (by decide) (by decide)]
  have z10 : zcm (zcs σ) n s c w sd l (nI 0) 10 = σ 10 := by rw [zcm_7 (by omega), zcs_n (by decide) (by decide)]
  have nn : znl (zcm (zcs σ) n s c w sd l (nI 0)) n = 0 := by unfold znl; rw [z7, b7]; decide
  have nl : ∀ k, znl (zcm (zcs σ) n s c w sd l (nI 0)) k = znl (zs1 (zcs σ) n s) k := fun k => by unfold znl; rw [r 7 (by decide) (by omega)]
  have nw : znw (zcm (zcs σ) n s c w sd l (nI 0)) = znw (zs1 (zcs σ) n s) := by unfold znw; rw [r 17 (by decide) (by omega)]
  have ns : zns (zcm (zcs σ) n s c w sd l (nI 0)) = zns (zs1 (zcs σ) n s) := by unfold zns; rw [r 23 (by decide) (by omega)]
  have yl : ∀ k, zly (zcm (zcs σ) n s c w sd l (nI 0)) k = zly (zs1 (zcs σ) n s) k := fun k => by unfold zly; rw [r 11 (by decide) (by omega)]
  have tg : ∀ k, ztg (zcm (zcs σ) n s c w sd l (nI 0)) k = ztg (zs1 (zcs σ) n s) k := fun k => by unfold ztg; rw [r 8 (by decide) (by omega)]
  have lt : ∀ k, zlost (zcm (zcs σ) n s c w sd l (nI 0)) k = zlost (zs1 (zcs σ) n s) k := fun k => by unfold zlost; rw [r 14 (by decide) (by omega), r 15 (by decide) (by omega)]
  have spl : ∀ k, k < n + 1 → k = n ∨ k < n := fun k hk => by omega
  refine ⟨b3, ?_, ⟨lv3, by rw [nw]; exact ad3.lv (by omega) H2.lw, by rw [ns]; exact ad3.lv (by omega) H2.ls, fun k hk => ?_, fun i j hi hj e => ?_, fun i j hi hj e => ?_⟩, fun k hk j hj => ?_, zWv.ad H2 kl ad3 (fun f _ _ => r f (by omega) (by omega)), zSn.ad H2 kl ad3 (fun f _ _ => r f (by omega) (by omega)), ⟨fun s' hs' => ?_, ?_⟩, ⟨?_, ?_⟩, fun k hk => ?_, fun s' hs' h0 => ?_⟩
  · unfold zPt
    rw [ch.2.2, c2.2.2]
    exact ⟨ch.1, H2.r0, H2.r1, H2.r2, H2.r3, c2.1, H2.r20, H2.r21, c3.1, c4.1⟩
  · rcases spl k hk with rfl | q
    · rw [cn.2.2, nn]
      exact ⟨oR, ad3.lv (by omega) ol, oK, oA⟩
    · rw [(cA k q).2.2, nl]
      exact ⟨H2.ra q, ad3.lv (by have := H2.gK q; omega) (H2.lk q), H2.gK q, H2.gA q⟩
  · rcases spl i hi with q | q <;> rcases spl j hj with q' | q'
    · omega
    · rw [q] at e; exact absurd e.symm (oi j q')
    · rw [q'] at e; exact absurd e (oi i q)
    · exact H2.iA q q' e
  · rcases spl i hi with q | q <;> rcases spl j hj with q' | q'
    · omega
    · rw [q] at e; exact absurd e.symm (ok j q')
    · rw [q'] at e; exact absurd e (ok i q)
    · exact H2.iK q q' e
  · rcases spl k hk with rfl | q
    · rw [nn] at hj; exact absurd hj (Nat.not_lt_zero j)
    · rw [nl] at hj
      have cx := ad3.cell b kl (H2.kB q hj) (by decide) (by decide) (by decide)
      rw [cx.2.1, cx.2.2, tg, r 9 (by decide) (by omega)]
      exact ⟨H2.b0 q hj, H2.b1 q hj⟩
  · rw [c4.2.1, c3.2.2, r 12 (by decide) (by omega), r 11 (by decide) (by omega), yl]
    exact ⟨H2.ag hs', H2.sl hs'⟩
  · rw [c2.2.1, r 13 (by decide) (by omega)]; exact H2.nx
  · rw [ch.2.1, r 16 (by decide) (by omega)]; exact H2.fr
  · rw [ch.2.1, r 26 (by decide) (by omega)]; exact H2.er
  · rcases spl k hk with rfl | q
    · have v := zcm_v (σ := zcs σ) (n := k) (s := s) (c := c) (w := w) (sd := sd) (l := l) (r := nI 0)
      rw [cn.2.1, v.1, v.2.1, v.2.2.1, v.2.2.2.1, v.2.2.2.2, z10, b10, r 1 (by decide) (by omega), zs1_1n]
      exact ⟨i0, i1, i3, i4, i5, i6, i7, i8⟩
    · rw [(cA k q).2.1, rk 4 k q (by decide), rk 1 k q (by decide), rk 2 k q (by decide), rk 3 k q (by decide), rk 5 k q (by decide), rk 6 k q (by decide), rk 10 k q (by decide)]
      exact H2.co q
  · rw [r 11 (by decide) (by omega)] at h0
    rw [yl, lt]
    have c9 := H2.c9 hs' h0
    by_cases q : zly (zs1 (zcs σ) n s) s' < n
    · rw [(cA _ q).2.1]; exact c9
    · by_cases q2 : zly (zs1 (zcs σ) n s) s' = n
      · rw [q2] at c9 ⊢
        rw [cn.2.1]; exact c9
      · exfalso
        by_cases q3 : s' = s
        · apply q2
          unfold zly
          rw [q3, zs1_11s, nI_clamp (by omega)]; rfl
        · rw [zs1_11 q3] at h0
          apply q
          have e3 : zly (zs1 (zcs σ) n s) s' = zly (zcs σ) s' := by unfold zly; rw [zs1_11 q3]
          rw [e3]
          rcases zcs_W11 w11 s' hs' with z | ⟨t, ht, z⟩
          · exact absurd z h0
          · rw [zlyt (by omega) z]; exact ht
end ENTER

