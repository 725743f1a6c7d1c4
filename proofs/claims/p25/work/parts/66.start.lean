/-! ===== a new hall, a new model ===== -/
section STARTS
variable {de h mi : Nat} {μ μ' μ0 : zM} {Q : zRes → zM → Prop}
theorem zS_sR' {a k : Nat} {x : Option Nat} : zS (zsR μ a k x) = zS μ := rfl
theorem C5 {a : Nat} (k : zK μ a = (4, 0)) (ha : a < zS μ) : zCall de mi 5 [.ref a] μ Q = Q (.inl none) (zsI (zsR (znew (zsR (znew μ 11 12 12) a 0 (some (zS μ))) 9 12 12) a 1 (some (zS μ + 1))) a 2 (nI 12)) := by
  refine zCall.one ?_ Q
  have k1 : zK (znew μ 11 12 12) a = (4, 0) := (if_neg (by omega)).trans k
  have k2 : zK (znew (zsR (znew μ 11 12 12) a 0 (some (zS μ))) 9 12 12) a = (4, 0) := (if_neg (by show ¬ a = zS μ + 1; omega)).trans k1
  have n12 : ¬ nI 12 < 0 := nI_pos (by decide)
  have c12 : (nI 12).toNatClampNeg = 12 := nI_clamp (by decide)
  have l12 : 12 ≤ 1000 := by decide
  show zH de mi 5 0 [some (.ref a)] [] _ _
  refine k5_0 ?_; simp only [zt5_0, zt5_1, zt5_4, zt5_5, zt5_7, zt5_10, zt5_13, zt5_14, zt5_16, zt5_18, zt5_21, zt5_22, zt5_24, zt5_27, e_null, e_iconst, e_bipush, e_sipush, e_iload_n, e_iload, e_aload_n, e_aload_nN, e_aload, e_aloadN, e_istore_n, e_istore, e_astore_n, e_astore_nN, e_astore, e_astoreN, e_iinc, e_iadd, e_isub, e_imul, e_iand, e_ior, e_ishl, e_ishr, e_idiv, e_irem, e_iushr, e_ineg, e_i2l, e_lcmp, e_dup, e_dup_x1, e_dup2, e_pop, e_goto, e_if_eq, e_if_ne, e_if_lt, e_if_ge, e_if_gt, e_if_le, e_icmp_eq, e_icmp_ne, e_icmp_lt, e_icmp_ge, e_icmp_gt, e_icmp_le, e_acmp_eq, e_acmp_ne, e_ifnullN, e_ifnull, e_ifnonnull, e_ifnonnullN, e_getI, e_getR, e_putI, e_putZ, e_putR, e_putN, e_new, e_throw, e_newarray, e_anewarray, e_alen, e_iaload, e_iastore, e_aaload, e_aastore, e_aastoreN, e_cast, e_castN, e_gets, e_ldcM, e_ldcI, e_objInit, e_getC, e_mmax, e_mmin, e_mabs, e_copy, e_iret, e_zret, e_aret, e_aretN, e_ret, e_v1, e_v2, e_v3, e_v4, e_v6, e_s1, e_s3, e_s6, e_c102_0, e_c102_1, e_c102_2, e_c102_3, e_c102_4, e_c103_1, e_c104_5, e_c104_7, zld_0, zld_s, List.set_cons_succ, List.set_cons_zero, List.length_cons, List.length_nil, Nat.reduceAdd, Nat.reduceLT, Nat.reduceLeDiff, Nat.reduceEqDiff, Nat.zero_add, true_and, and_true, and_self, zcst_0, zcst_1, zcat_ref, zcat_int, zcat_null, zcat_rf, vrf_some, vrf_none, vrf_mid, ne_eq, reduceCtorEq, not_false_eq_true, not_true_eq_false, if_true, if_false, true_implies, false_implies, Option.some.injEq, Value.int.injEq, Value.ref.injEq, Value.long.injEq, implies_true, Nat.succ_ne_self, Nat.reduceMul, zI_sI, zI_sR, zR_sI, zR_sR, zK_sI, zK_sR, zret_some, zret_none, zret_thrown, List.cons_append, List.nil_append, Option.toList, or_self, or_false, false_or, true_or, or_true, nI_add, n12, c12, l12, k1, k2, zS_sR', zS_new, Nat.zero_le]
/-- what a new hall is made of -/
def zH0 (de h : Nat) (μ0 μ : zM) : Prop := zS μ = h + 7 ∧ (∀ a, a < h → zK μ a = zK μ0 a ∧ zI μ a = zI μ0 a ∧ zR μ a = zR μ0 a) ∧ zPt h μ ∧ (zK μ (h + 1) = (1, 0) ∧ zK μ (h + 5) = (1, 0) ∧ zK μ (h + 6) = (1, 0)) ∧ (∀ a, h + 7 ≤ a → zK μ a = (0, 0)) ∧ (zR μ (h + 1) 1 = some de ∧ zR μ (h + 5) 1 = some de ∧ zR μ (h + 6) 1 = some de) ∧ (∀ s, zR μ (h + 3) s = none) ∧ (zI μ (h + 1) 2 = 0 ∧ zI μ (h + 5) 2 = 0 ∧ zI μ (h + 6) 2 = 0 ∧ zI μ h 4 = 0 ∧ zI μ h 5 = 0 ∧ zI μ (h + 2) 2 = nI 12) ∧ (∀ s, zI μ (h + 4) s = 0) ∧ zC μ = zC μ0 + 6 ∧ zL μ = zL μ0 + 36
theorem C15 (hS : zS μ0 = h + 1) (k : zK μ0 h = (7, 0)) (z : ∀ a, h < a → zK μ0 a = (0, 0)) (i0 : ∀ k, zI μ0 h k = 0) (hq : ∀ μ, zH0 de h μ0 μ → Q (.inl none) μ) : zCall de mi 15 [.ref h] μ0 Q := by
  have sR : ∀ {μ : zM} {a k x}, zS (zsR μ a k x) = zS μ := rfl
  have sI : ∀ {μ : zM} {a k x}, zS (zsI μ a k x) = zS μ := rfl
  have sN : ∀ {μ : zM} {t n w}, zS (znew μ t n w) = zS μ + 1 := rfl
  have kR : ∀ {μ : zM} {a k x}, zK (zsR μ a k x) = zK μ := rfl
  have kI : ∀ {μ : zM} {a k x}, zK (zsI μ a k x) = zK μ := rfl
  have g97 : ∀ {ν : zM} {a : Nat} Q, zS ν = a → zCall de mi 57 [.ref a] (znew ν 1 0 3) Q = Q (.inl none) (zsR (zsI (znew ν 1 0 3) a 0 (nI 0)) a 1 (some de)) := fun Q e => L97 (if_pos e.symm)
  have g5 : ∀ {ν : zM} {a : Nat} Q, zS ν = a → zCall de mi 5 [.ref a] (znew ν 4 0 3) Q = Q (.inl none) (zsI (zsR (znew (zsR (znew (znew ν 4 0 3) 11 12 12) a 0 (some (a + 1))) 9 12 12) a 1 (some (a + 2))) a 2 (nI 12)) := fun Q e => by
    subst e
    exact C5 (if_pos rfl) (Nat.lt_succ_self _)
  show zH de mi 15 0 [some (.ref h)] [] _ _
  refine k15_0 ?_
  have n1 : (h = h + 1) = False := eq_false (by omega)
  have n2 : (h = h + 2) = False := eq_false (by omega)
  have n3 : (h = h + 3) = False := eq_false (by omega)
  have n4 : (h = h + 4) = False := eq_false (by omega)
  have n5 : (h = h + 5) = False := eq_false (by omega)
  have n6 : (h = h + 6) = False := eq_false (by omega)
  simp only [zt15_0, zt15_1, zt15_4, zt15_5, zt15_8, zt15_9, zt15_12, zt15_15, zt15_16, zt15_19, zt15_20, zt15_23, zt15_26, zt15_27, zt15_30, zt15_31, zt15_34, zt15_37, zt15_38, zt15_41, zt15_42, zt15_45, zt15_48, e_null, e_iconst, e_bipush, e_sipush, e_iload_n, e_iload, e_aload_n, e_aload_nN, e_aload, e_aloadN, e_istore_n, e_istore, e_astore_n, e_astore_nN, e_astore, e_astoreN, e_iinc, e_iadd, e_isub, e_imul, e_iand, e_ior, e_ishl, e_ishr, e_idiv, e_irem, e_iushr, e_ineg, e_i2l, e_lcmp, e_dup, e_dup_x1, e_dup2, e_pop, e_goto, e_if_eq, e_if_ne, e_if_lt, e_if_ge, e_if_gt, e_if_le, e_icmp_eq, e_icmp_ne, e_icmp_lt, e_icmp_ge, e_icmp_gt, e_icmp_le, e_acmp_eq, e_acmp_ne, e_ifnullN, e_ifnull, e_ifnonnull, e_ifnonnullN, e_getI, e_getR, e_putI, e_putZ, e_putR, e_putN, e_new, e_throw, e_newarray, e_anewarray, e_alen, e_iaload, e_iastore, e_aaload, e_aastore, e_aastoreN, e_cast, e_castN, e_gets, e_ldcM, e_ldcI, e_objInit, e_getC, e_mmax, e_mmin, e_mabs, e_copy, e_iret, e_zret, e_aret, e_aretN, e_ret, e_v1, e_v2, e_v3, e_v4, e_v6, e_s1, e_s3, e_s6, e_c102_0, e_c102_1, e_c102_2, e_c102_3, e_c102_4, e_c103_1, e_c104_5, e_c104_7, zld_0, zld_s, List.set_cons_succ, List.set_cons_zero, List.length_cons, List.length_nil, Nat.reduceAdd, Nat.reduceLT, Nat.reduceLeDiff, Nat.reduceEqDiff, Nat.zero_add, true_and, and_true, and_self, zcst_0, zcst_1, zcat_ref, zcat_int, zcat_null, zcat_rf, vrf_some, vrf_none, vrf_mid, ne_eq, reduceCtorEq, not_false_eq_true, not_true_eq_false, if_true, if_false, true_implies, false_implies, Option.some.injEq, Value.int.injEq, Value.ref.injEq, Value.long.injEq, implies_true, Nat.succ_ne_self, Nat.reduceMul, zI_sI, zI_sR, zR_sI, zR_sR, zK_sI, zK_sR, zret_some, zret_none, zret_thrown, List.cons_append, List.nil_append, Option.toList, or_self, or_false, false_or, true_or, or_true, nI_add, Nat.zero_le, g97, g5, sR, sI, sN, kR, kI, hS, zK_new, k, Nat.add_assoc, n1, n2, n3, n4, n5, n6]
  refine hq _ ⟨?_, fun a ha => ?_, ?_, ?_, fun a ha => ?_, ?_, fun s => ?_, ?_, fun s => ?_, ?_, ?_⟩
  · simp only [sR, sI, sN, hS, Nat.add_assoc, Nat.reduceAdd]
  · have e0 : (a = h) = False := eq_false (by omega)
    have e1 : (a = h + 1) = False := eq_false (by omega)
    have e2 : (a = h + 2) = False := eq_false (by omega)
    have e3 : (a = h + 3) = False := eq_false (by omega)
    have e4 : (a = h + 4) = False := eq_false (by omega)
    have e5 : (a = h + 5) = False := eq_false (by omega)
    have e6 : (a = h + 6) = False := eq_false (by omega)
    refine ⟨?_, ?_, ?_⟩
    · simp only [kR, kI, zK_new, sR, sI, sN, hS, Nat.add_assoc, Nat.reduceAdd, e0, e1, e2, e3, e4, e5, e6, if_false]
    · funext j
      simp only [zI_sI, zI_sR, zup, zI_new, sR, sI, sN, hS, Nat.add_assoc, Nat.reduceAdd, e0, e1, e2, e3, e4, e5, e6, if_false, false_and]
    · funext j
      simp only [zR_sI, zR_sR, zup, zR_new, sR, sI, sN, hS, Nat.add_assoc, Nat.reduceAdd, e0, e1, e2, e3, e4, e5, e6, if_false, false_and]
  · simp [zPt, kR, kI, zK_new, zR_sI, zR_sR, zup, zR_new, sR, sI, sN, hS, k, Nat.add_assoc]
  · simp [kR, kI, zK_new, sR, sI, sN, hS, k, Nat.add_assoc]
  · have e1 : (a = h + 1) = False := eq_false (by omega)
    have e2 : (a = h + 2) = False := eq_false (by omega)
    have e3 : (a = h + 3) = False := eq_false (by omega)
    have e4 : (a = h + 4) = False := eq_false (by omega)
    have e5 : (a = h + 5) = False := eq_false (by omega)
    have e6 : (a = h + 6) = False := eq_false (by omega)
    simp only [kR, kI, zK_new, sR, sI, sN, hS, Nat.add_assoc, Nat.reduceAdd, e1, e2, e3, e4, e5, e6, if_false]
    exact z a (by omega)
  · simp [zR_sI, zR_sR, zup, zR_new, sR, sI, sN, hS, Nat.add_assoc]
  · simp [zR_sI, zR_sR, zup, zR_new, sR, sI, sN, hS, Nat.add_assoc]
  · simp [zI_sI, zI_sR, zup, zI_new, sR, sI, sN, hS, i0, Nat.add_assoc]
  · simp [zI_sI, zI_sR, zup, zI_new, sR, sI, sN, hS, i0, Nat.add_assoc]
  · rfl
  · rfl
end STARTS

