/-! ===== a new hall, a new model ===== -/
section STARTS
variable {de h mi : Nat} {μ μ' μ0 : zM} {Q : zRes → zM → Prop}
theorem zS_sR' {a k : Nat} {x : Option Nat} : zS (zsR μ a k x) = zS μ := rfl
theorem C5 {a : Nat} (k : zK μ a = (4, 0)) (ha : a < zS μ) : zCall de mi 5 [.ref a] μ Q = Q (.inl none) (zsI (zsR (znew (zsR (znew μ 11 12 12) a 0 (some (zS μ))) 9 12 12) a 1 (some (zS μ + 1))) a 2 (nI 12)) := by
  refine zCall.one ?_ Q
  have k1 : zK (znew μ 11 12 12) a = (4, 0) := (if_neg (by omega)).trans k
  have k2 : zK (znew (zsR (znew μ 11 12 12) a 0 (some (zS μ))) 9 12 12) a = (4, 0) := (if_neg (by show ¬ a = zS μ + 1; omega)).trans k1
  have n12 : ¬ nI 12 < 0 := nI_pos (by decide)
  have c12 : (nI 12).toNatClampNeg = 12 := nI_clamp (by decide)
  have l12 : 12 ≤ 1000 := by decide
  show zH de mi 5 0 [some (.ref a)] [] _ _
  refine k5_0 ?_; simp only [zt5_0, zt5_1, zt5_4, zt5_5, zt5_7, zt5_10, zt5_13, zt5_14, zt5_16, zt5_18, zt5_21, zt5_22, zt5_24, zt5_27, e_null, e_iconst, e_bipush, e_sipush, e_iload_n, e_iload, e_aload_n, e_aload_nN, e_aload, e_aloadN, e_istore_n, e_istore, e_astore_n, e_astore_nN, e_astore, e_astoreN, e_iinc, e_iadd, e_isub, e_imul, e_iand, e_ior, e_ishl, e_ishr, e_idiv, e_irem, e_ineg, e_i2l, e_lcmp, e_dup, e_dup_x1, e_dup2, e_pop, e_goto, e_if_eq, e_if_ne, e_if_lt, e_if_ge, e_if_gt, e_if_le, e_icmp_eq, e_icmp_ne, e_icmp_lt, e_icmp_ge, e_icmp_gt, e_icmp_le, e_acmp_eq, e_acmp_ne, e_ifnullN, e_ifnull, e_ifnonnull, e_ifnonnullN, e_getI, e_getR, e_putI, e_putZ, e_putR, e_putN, e_new, e_throw, e_newarray, e_anewarray, e_alen, e_iaload, e_iastore, e_baload, e_bastore, e_aaload, e_aastore, e_aastoreN, e_laload, e_lastore, e_cast, e_castN, e_gets, e_ldcM, e_ldcI, e_objInit, e_getC, e_mmax, e_mmin, e_mabs, e_copy, e_iret, e_zret, e_aret, e_aretN, e_ret, e_v1, e_v2, e_v3, e_v4, e_v6, e_s1, e_s3, e_s6, e_c102_1, e_c102_2, e_c102_3, e_c102_4, e_c103_1, e_c104_3, e_c104_4, e_c104_5, e_c104_6, e_c104_7, zld_0, zld_s, List.set_cons_succ, List.set_cons_zero, List.length_cons, List.length_nil, Nat.reduceAdd, Nat.reduceLT, Nat.reduceLeDiff, Nat.reduceEqDiff, Nat.zero_add, true_and, and_true, and_self, zcst_0, zcst_1, zcat_ref, zcat_int, zcat_null, zcat_rf, vrf_some, vrf_none, vrf_mid, ne_eq, reduceCtorEq, not_false_eq_true, not_true_eq_false, if_true, if_false, true_implies, false_implies, Option.some.injEq, Value.int.injEq, Value.ref.injEq, Value.long.injEq, implies_true, Nat.succ_ne_self, Nat.reduceMul, zI_sI, zI_sR, zR_sI, zR_sR, zK_sI, zK_sR, zret_some, zret_none, zret_thrown, List.cons_append, List.nil_append, Option.toList, or_self, or_false, false_or, true_or, or_true, zK_mI, zR_mI, nI_add, n12, c12, l12, k1, k2, zS_sR', zS_new, Nat.zero_le]
/-- what a new hall is made of -/
def zH0 (de h : Nat) (μ0 μ : zM) : Prop := zS μ = h + 7 ∧ (∀ a, a < h → zK μ a = zK μ0 a ∧ zI μ a = zI μ0 a ∧ zR μ a = zR μ0 a) ∧ zPt h μ ∧ (zK μ (h + 1) = (1, 0) ∧ zK μ (h + 5) = (1, 0) ∧ zK μ (h + 6) = (1, 0)) ∧ (∀ a, h + 7 ≤ a → zK μ a = (0, 0)) ∧ (zR μ (h + 1) 1 = some de ∧ zR μ (h + 5) 1 = some de ∧ zR μ (h + 6) 1 = some de) ∧ (∀ s, zR μ (h + 3) s = none) ∧ (zI μ (h + 1) 2 = 0 ∧ zI μ (h + 5) 2 = 0 ∧ zI μ (h + 6) 2 = 0 ∧ zI μ h 4 = 0 ∧ zI μ h 5 = 0 ∧ zI μ (h + 2) 2 = nI 12) ∧ (∀ s, zI μ (h + 4) s = 0) ∧ zC μ = zC μ0 + 6 ∧ zL μ = zL μ0 + 36
theorem C15 (hS : zS μ0 = h + 1) (k : zK μ0 h = (7, 0)) (z : ∀ a, h < a → zK μ0 a = (0, 0)) (i0 : ∀ k, zI μ0 h k = 0) (hq : ∀ μ, zH0 de h μ0 μ → Q (.inl none) μ) : zCall de mi 15 [.ref h] μ0 Q := by
  have sR : ∀ {μ : zM} {a k x}, zS (zsR μ a k x) = zS μ := rfl
  have sI : ∀ {μ : zM} {a k x}, zS (zsI μ a k x) = zS μ := rfl
  have sN : ∀ {μ : zM} {t n w}, zS (znew μ t n w) = zS μ + 1 := rfl
  have kR : ∀ {μ : zM} {a k x}, zK (zsR μ a k x) = zK μ := rfl
  have kI : ∀ {μ : zM} {a k x}, zK (zsI μ a k x) = zK μ := rfl
  have g97 : ∀ {ν : zM} {a : Nat} Q, zS ν = a → zCall de mi 97 [.ref a] (znew ν 1 0 3) Q = Q (.inl none) (zsR (zsI (znew ν 1 0 3) a 0 (nI 0)) a 1 (some de)) := fun Q e => L97 (if_pos e.symm)
  have g5 : ∀ {ν : zM} {a : Nat} Q, zS ν = a → zCall de mi 5 [.ref a] (znew ν 4 0 3) Q = Q (.inl none) (zsI (zsR (znew (zsR (znew (znew ν 4 0 3) 11 12 12) a 0 (some (a + 1))) 9 12 12) a 1 (some (a + 2))) a 2 (nI 12)) := fun Q e => by
    subst e
    exact C5 (if_pos rfl) (Nat.lt_succ_self _)
  show zH de mi 15 0 [some (.ref h)] [] _ _
  refine k15_0 ?_
  have n1 : (h = h + 1) = False := eq_false (by omega)
  have n2 : (h = h + 2) = False := eq_false (by omega)
  have n3 : (h = h + 3) = False := eq_false (by omega)
  have n4 : (h = h + 4) = False := eq_false (by omega)
  have n5 : (h = h + 5) = False := eq_false (by omega)
  have n6 : (h = h + 6) = False := eq_false (by omega)
  simp only [zt15_0, zt15_1, zt15_4, zt15_5, zt15_8, zt15_9, zt15_12, zt15_15, zt15_16, zt15_19, zt15_20, zt15_23, zt15_26, zt15_27, zt15_30, zt15_31, zt15_34, zt15_37, zt15_38, zt15_41, zt15_42, zt15_45, zt15_48, e_null, e_iconst, e_bipush, e_sipush, e_iload_n, e_iload, e_aload_n, e_aload_nN, e_aload, e_aloadN, e_istore_n, e_istore, e_astore_n, e_astore_nN, e_astore, e_astoreN, e_iinc, e_iadd, e_isub, e_imul, e_iand, e_ior, e_ishl, e_ishr, e_idiv, e_irem, e_ineg, e_i2l, e_lcmp, e_dup, e_dup_x1, e_dup2, e_pop, e_goto, e_if_eq, e_if_ne, e_if_lt, e_if_ge, e_if_gt, e_if_le, e_icmp_eq, e_icmp_ne, e_icmp_lt, e_icmp_ge, e_icmp_gt, e_icmp_le, e_acmp_eq, e_acmp_ne, e_ifnullN, e_ifnull, e_ifnonnull, e_ifnonnullN, e_getI, e_getR, e_putI, e_putZ, e_putR, e_putN, e_new, e_throw, e_newarray, e_anewarray, e_alen, e_iaload, e_iastore, e_baload, e_bastore, e_aaload, e_aastore, e_aastoreN, e_laload, e_lastore, e_cast, e_castN, e_gets, e_ldcM, e_ldcI, e_objInit, e_getC, e_mmax, e_mmin, e_mabs, e_copy, e_iret, e_zret, e_aret, e_aretN, e_ret, e_v1, e_v2, e_v3, e_v4, e_v6, e_s1, e_s3, e_s6, e_c102_1, e_c102_2, e_c102_3, e_c102_4, e_c103_1, e_c104_3, e_c104_4, e_c104_5, e_c104_6, e_c104_7, zld_0, zld_s, List.set_cons_succ, List.set_cons_zero, List.length_cons, List.length_nil, Nat.reduceAdd, Nat.reduceLT, Nat.reduceLeDiff, Nat.reduceEqDiff, Nat.zero_add, true_and, and_true, and_self, zcst_0, zcst_1, zcat_ref, zcat_int, zcat_null, zcat_rf, vrf_some, vrf_none, vrf_mid, ne_eq, reduceCtorEq, not_false_eq_true, not_true_eq_false, if_true, if_false, true_implies, false_implies, Option.some.injEq, Value.int.injEq, Value.ref.injEq, Value.long.injEq, implies_true, Nat.succ_ne_self, Nat.reduceMul, zI_sI, zI_sR, zR_sI, zR_sR, zK_sI, zK_sR, zret_some, zret_none, zret_thrown, List.cons_append, List.nil_append, Option.toList, or_self, or_false, false_or, true_or, or_true, zK_mI, zR_mI, nI_add, Nat.zero_le, g97, g5, sR, sI, sN, kR, kI, hS, zK_new, k, Nat.add_assoc, n1, n2, n3, n4, n5, n6]
  refine hq _ ⟨?_, fun a ha => ?_, ?_, ?_, fun a ha => ?_, ?_, fun s => ?_, ?_, fun s => ?_, ?_, ?_⟩
  · simp only [sR, sI, sN, hS, Nat.add_assoc, Nat.reduceAdd]
  · have e0 : (a = h) = False := eq_false (by omega)
    have e1 : (a = h + 1) = False := eq_false (by omega)
    have e2 : (a = h + 2) = False := eq_false (by omega)
    have e3 : (a = h + 3) = False := eq_false (by omega)
    have e4 : (a = h + 4) = False := eq_false (by omega)
    have e5 : (a = h + 5) = False := eq_false (by omega)
    have e6 : (a = h + 6) = False := eq_false (by omega)
    refine ⟨?_, ?_, ?_⟩
    · simp only [kR, kI, zK_new, sR, sI, sN, hS, Nat.add_assoc, Nat.reduceAdd, e0, e1, e2, e3, e4, e5, e6, if_false]
    · funext j
      simp only [zI_sI, zI_sR, zup, zI_new, sR, sI, sN, hS, Nat.add_assoc, Nat.reduceAdd, e0, e1, e2, e3, e4, e5, e6, if_false, false_and]
    · funext j
      simp only [zR_sI, zR_sR, zup, zR_new, sR, sI, sN, hS, Nat.add_assoc, Nat.reduceAdd, e0, e1, e2, e3, e4, e5, e6, if_false, false_and]
  · simp [zPt, kR, kI, zK_new, zR_sI, zR_sR, zup, zR_new, sR, sI, sN, hS, k, Nat.add_assoc]
  · simp [kR, kI, zK_new, sR, sI, sN, hS, k, Nat.add_assoc]
  · have e1 : (a = h + 1) = False := eq_false (by omega)
    have e2 : (a = h + 2) = False := eq_false (by omega)
    have e3 : (a = h + 3) = False := eq_false (by omega)
    have e4 : (a = h + 4) = False := eq_false (by omega)
    have e5 : (a = h + 5) = False := eq_false (by omega)
    have e6 : (a = h + 6) = False := eq_false (by omega)
    simp only [kR, kI, zK_new, sR, sI, sN, hS, Nat.add_assoc, Nat.reduceAdd, e1, e2, e3, e4, e5, e6, if_false]
    exact z a (by omega)
  · simp [zR_sI, zR_sR, zup, zR_new, sR, sI, sN, hS, Nat.add_assoc]
  · simp [zR_sI, zR_sR, zup, zR_new, sR, sI, sN, hS, Nat.add_assoc]
  · simp [zI_sI, zI_sR, zup, zI_new, sR, sI, sN, hS, i0, Nat.add_assoc]
  · simp [zI_sI, zI_sR, zup, zI_new, sR, sI, sN, hS, i0, Nat.add_assoc]
  · rfl
  · rfl
/-- the model's arrays, one behind another -/
def zMs (μ0 : zM) (m j : Nat) (g : Nat → Int32) (μ : zM) : Prop := zS μ = m + 1 + j ∧ (∀ i, 1 ≤ i → i ≤ j → zR μ m (zfo i) = some (m + i) ∧ zK μ (m + i) = zkl i) ∧ (∀ a, a ≤ m → zK μ a = zK μ0 a) ∧ (∀ a, m + j < a → zK μ a = (0, 0)) ∧ (∀ a, a < m → zI μ a = zI μ0 a ∧ zR μ a = zR μ0 a) ∧ zI μ m = g ∧ (∀ a, m < a → a ≤ m + j → ∀ k, zI μ a k = 0) ∧ zC μ = zC μ0 + j ∧ zL μ ≤ zL μ0 + 120 * j
theorem zMs.step {m j : Nat} {g : Nat → Int32} (s : zMs μ0 m j g μ) (hj : j < 20) : zMs μ0 m (j + 1) g (zsR (znew μ (zkl (j + 1)).1 (zkl (j + 1)).2 (zkl (j + 1)).2) m (zfo (j + 1)) (some (zS μ))) := by
  obtain ⟨s1, s2, s3, s4, s5, s6, s7, s8, s9⟩ := s
  have kk : ∀ a, zK (zsR (znew μ (zkl (j + 1)).1 (zkl (j + 1)).2 (zkl (j + 1)).2) m (zfo (j + 1)) (some (zS μ))) a = if a = zS μ then zkl (j + 1) else zK μ a := fun a => rfl
  have ii : ∀ a, a ≠ zS μ → zI (zsR (znew μ (zkl (j + 1)).1 (zkl (j + 1)).2 (zkl (j + 1)).2) m (zfo (j + 1)) (some (zS μ))) a = zI μ a := fun a ha => by
    funext k; rw [zI_sR, zI_new, if_neg ha]
  refine ⟨?_, fun i h1 h2 => ?_, fun a ha => ?_, fun a ha => ?_, fun a ha => ⟨(ii a (by omega)).trans (s5 a ha).1, ?_⟩, ?_, fun a h1 h2 k => ?_, ?_, ?_⟩
  · show zS μ + 1 = _; omega
  · by_cases q : i = j + 1
    · subst q
      refine ⟨?_, ?_⟩
      · rw [zR_sR, zup_s, s1]; exact congrArg some (by omega)
      · rw [kk, if_pos (by omega)]
    · have a2 := s2 i h1 (by omega)
      refine ⟨?_, ?_⟩
      · rw [zR_sR, zup_k (fun e => q (zfo_inj' (by omega) (by omega) e)), zR_new, if_neg (by omega)]; exact a2.1
      · rw [kk, if_neg (by omega)]; exact a2.2
  · rw [kk, if_neg (by omega)]; exact s3 a ha
  · rw [kk, if_neg (by omega)]; exact s4 a (by omega)
  · rw [zR_sR, zup_f (by omega)]; funext k; rw [zR_new, if_neg (by omega)]; exact congrFun (s5 a ha).2 k
  · rw [ii m (by omega)]; exact s6
  · by_cases q : a = zS μ
    · rw [zI_sR, zI_new, if_pos q]
    · rw [ii a q]; exact s7 a h1 (by omega) k
  · show zC μ + 1 = _; omega
  · have : (zkl (j + 1)).2 ≤ 120 := by
      unfold zkl zln
      simp only
      split
      · omega
      · split
        · omega
        · split
          · omega
          · split <;> omega
    show zL μ + _ ≤ _; omega
theorem zMs.put {m j : Nat} {g : Nat → Int32} {x : Int32} (s : zMs μ0 m j g μ) : zMs μ0 m j (fun k => if k = 13 then x else g k) (zsI μ m 13 x) := by
  obtain ⟨s1, s2, s3, s4, s5, s6, s7, s8, s9⟩ := s
  refine ⟨s1, s2, s3, s4, fun a ha => ⟨(zup_f (by omega)).trans (s5 a ha).1, (s5 a ha).2⟩, ?_, fun a h1 h2 k => ?_, s8, s9⟩
  · funext k
    rw [zI_sI]
    by_cases q : k = 13
    · rw [q, zup_s]; rfl
    · rw [zup_k q, s6, if_neg q]
  · rw [zI_sI, zup_f (by omega)]; exact s7 a h1 h2 k
theorem z55s {m j c p p0 n0 p1 n1 p2 n2 p3 n3 x2 f i5 v0 z0 v1 v2 z2 : Nat} {w0 w1 w2 w3 : List Nat} {i1 : Int} {t : ArrayType} {L : List zOp} {g : Nat → Int32} (s : zMs μ0 m j g μ) (km : zK μ0 m = (8, 0)) (hj : j < 20) (e : zkl (j + 1) = (x2, c)) (ef : zfo (j + 1) = f) (hc : c ≤ 1000) (hq : ∀ μ', zMs μ0 m (j + 1) g μ' → zx de mi 55 Q L n3 [some (.ref m)] [] μ') : zx de mi 55 Q ((p0, .aload_n 0, n0, 0, v0, z0, w0) :: (p1, .bipush i1, n1, c, v1, 0, w1) :: (p2, .newarray t, n2, x2, v2, z2, w2) :: (p3, .putfield i5, n3, 7, f, 1, w3) :: L) p [some (.ref m)] [] μ := by
  have st := s.step hj
  rw [e, ef] at st
  have k0 : zK μ m = (8, 0) := (s.2.2.1 m (Nat.le_refl m)).trans km
  have k1 : zK (znew μ x2 c c) m = (8, 0) := (if_neg (by have := s.1; omega)).trans k0
  have n12 : ¬ nI c < 0 := nI_pos (by omega)
  have c12 : (nI c).toNatClampNeg = c := nI_clamp (by omega)
  simp only [e_null, e_iconst, e_bipush, e_sipush, e_iload_n, e_iload, e_aload_n, e_aload_nN, e_aload, e_aloadN, e_istore_n, e_istore, e_astore_n, e_astore_nN, e_astore, e_astoreN, e_iinc, e_iadd, e_isub, e_imul, e_iand, e_ior, e_ishl, e_ishr, e_idiv, e_irem, e_ineg, e_i2l, e_lcmp, e_dup, e_dup_x1, e_dup2, e_pop, e_goto, e_if_eq, e_if_ne, e_if_lt, e_if_ge, e_if_gt, e_if_le, e_icmp_eq, e_icmp_ne, e_icmp_lt, e_icmp_ge, e_icmp_gt, e_icmp_le, e_acmp_eq, e_acmp_ne, e_ifnullN, e_ifnull, e_ifnonnull, e_ifnonnullN, e_getI, e_getR, e_putI, e_putZ, e_putR, e_putN, e_new, e_throw, e_newarray, e_anewarray, e_alen, e_iaload, e_iastore, e_baload, e_bastore, e_aaload, e_aastore, e_aastoreN, e_laload, e_lastore, e_cast, e_castN, e_gets, e_ldcM, e_ldcI, e_objInit, e_getC, e_mmax, e_mmin, e_mabs, e_copy, e_iret, e_zret, e_aret, e_aretN, e_ret, e_v1, e_v2, e_v3, e_v4, e_v6, e_s1, e_s3, e_s6, e_c102_1, e_c102_2, e_c102_3, e_c102_4, e_c103_1, e_c104_3, e_c104_4, e_c104_5, e_c104_6, e_c104_7, zld_0, zld_s, List.set_cons_succ, List.set_cons_zero, List.length_cons, List.length_nil, Nat.reduceAdd, Nat.reduceLT, Nat.reduceLeDiff, Nat.reduceEqDiff, Nat.zero_add, true_and, and_true, and_self, zcst_0, zcst_1, zcat_ref, zcat_int, zcat_null, zcat_rf, vrf_some, vrf_none, vrf_mid, ne_eq, reduceCtorEq, not_false_eq_true, not_true_eq_false, if_true, if_false, true_implies, false_implies, Option.some.injEq, Value.int.injEq, Value.ref.injEq, Value.long.injEq, implies_true, Nat.succ_ne_self, Nat.reduceMul, zI_sI, zI_sR, zR_sI, zR_sR, zK_sI, zK_sR, zret_some, zret_none, zret_thrown, List.cons_append, List.nil_append, Option.toList, or_self, or_false, false_or, true_or, or_true, zK_mI, zR_mI, nI_add, n12, c12, hc, k1]
  exact hq _ st
theorem M55 {m : Nat} (hS : zS μ0 = m + 1) (km : zK μ0 m = (8, 0)) (z : ∀ a, m < a → zK μ0 a = (0, 0)) (i0 : ∀ k, zI μ0 m k = 0) (hq : ∀ μ, zMs μ0 m 20 (fun k => if k = 13 then -nI 1 else 0) μ → Q (.inl none) μ) : zCall de mi 55 [.ref m] μ0 Q := by
  have s0 : zMs μ0 m 0 (fun _ => 0) μ0 := ⟨hS, fun i h1 h2 => by omega, fun _ _ => rfl, fun a ha => z a (by omega), fun _ _ => ⟨rfl, rfl⟩, funext i0, fun a h1 h2 => by omega, rfl, Nat.le_refl _⟩
  show zH de mi 55 0 [some (.ref m)] [] _ _
  refine k55_0 ?_
  simp only [zt55_0, zt55_1, e_null, e_iconst, e_bipush, e_sipush, e_iload_n, e_iload, e_aload_n, e_aload_nN, e_aload, e_aloadN, e_istore_n, e_istore, e_astore_n, e_astore_nN, e_astore, e_astoreN, e_iinc, e_iadd, e_isub, e_imul, e_iand, e_ior, e_ishl, e_ishr, e_idiv, e_irem, e_ineg, e_i2l, e_lcmp, e_dup, e_dup_x1, e_dup2, e_pop, e_goto, e_if_eq, e_if_ne, e_if_lt, e_if_ge, e_if_gt, e_if_le, e_icmp_eq, e_icmp_ne, e_icmp_lt, e_icmp_ge, e_icmp_gt, e_icmp_le, e_acmp_eq, e_acmp_ne, e_ifnullN, e_ifnull, e_ifnonnull, e_ifnonnullN, e_getI, e_getR, e_putI, e_putZ, e_putR, e_putN, e_new, e_throw, e_newarray, e_anewarray, e_alen, e_iaload, e_iastore, e_baload, e_bastore, e_aaload, e_aastore, e_aastoreN, e_laload, e_lastore, e_cast, e_castN, e_gets, e_ldcM, e_ldcI, e_objInit, e_getC, e_mmax, e_mmin, e_mabs, e_copy, e_iret, e_zret, e_aret, e_aretN, e_ret, e_v1, e_v2, e_v3, e_v4, e_v6, e_s1, e_s3, e_s6, e_c102_1, e_c102_2, e_c102_3, e_c102_4, e_c103_1, e_c104_3, e_c104_4, e_c104_5, e_c104_6, e_c104_7, zld_0, zld_s, List.set_cons_succ, List.set_cons_zero, List.length_cons, List.length_nil, Nat.reduceAdd, Nat.reduceLT, Nat.reduceLeDiff, Nat.reduceEqDiff, Nat.zero_add, true_and, and_true, and_self, zcst_0, zcst_1, zcat_ref, zcat_int, zcat_null, zcat_rf, vrf_some, vrf_none, vrf_mid, ne_eq, reduceCtorEq, not_false_eq_true, not_true_eq_false, if_true, if_false, true_implies, false_implies, Option.some.injEq, Value.int.injEq, Value.ref.injEq, Value.long.injEq, implies_true, Nat.succ_ne_self, Nat.reduceMul, zI_sI, zI_sR, zR_sI, zR_sR, zK_sI, zK_sR, zret_some, zret_none, zret_thrown, List.cons_append, List.nil_append, Option.toList, or_self, or_false, false_or, true_or, or_true, zK_mI, zR_mI, nI_add, Nat.zero_le]
  refine z55s s0 km (by decide) rfl rfl (by decide) (fun μ1 s1 => ?_)
  refine z55s s1 km (by decide) rfl rfl (by decide) (fun μ2 s2 => ?_)
  refine z55s s2 km (by decide) rfl rfl (by decide) (fun μ3 s3 => ?_)
  refine z55s s3 km (by decide) rfl rfl (by decide) (fun μ4 s4 => ?_)
  refine z55s s4 km (by decide) rfl rfl (by decide) (fun μ5 s5 => ?_)
  refine z55s s5 km (by decide) rfl rfl (by decide) (fun μ6 s6 => ?_)
  refine z55s s6 km (by decide) rfl rfl (by decide) (fun μ7 s7 => ?_)
  refine z55s s7 km (by decide) rfl rfl (by decide) (fun μ8 s8 => ?_)
  refine z55s s8 km (by decide) rfl rfl (by decide) (fun μ9 s9 => ?_)
  refine z55s s9 km (by decide) rfl rfl (by decide) (fun μ10 s10 => ?_)
  refine z55s s10 km (by decide) rfl rfl (by decide) (fun μ11 s11 => ?_)
  refine z55s s11 km (by decide) rfl rfl (by decide) (fun μ12 s12 => ?_)
  have k12 : zK μ12 m = (8, 0) := (s12.2.2.1 m (Nat.le_refl m)).trans km
  simp only [zt55_100, zt55_101, zt55_102, e_null, e_iconst, e_bipush, e_sipush, e_iload_n, e_iload, e_aload_n, e_aload_nN, e_aload, e_aloadN, e_istore_n, e_istore, e_astore_n, e_astore_nN, e_astore, e_astoreN, e_iinc, e_iadd, e_isub, e_imul, e_iand, e_ior, e_ishl, e_ishr, e_idiv, e_irem, e_ineg, e_i2l, e_lcmp, e_dup, e_dup_x1, e_dup2, e_pop, e_goto, e_if_eq, e_if_ne, e_if_lt, e_if_ge, e_if_gt, e_if_le, e_icmp_eq, e_icmp_ne, e_icmp_lt, e_icmp_ge, e_icmp_gt, e_icmp_le, e_acmp_eq, e_acmp_ne, e_ifnullN, e_ifnull, e_ifnonnull, e_ifnonnullN, e_getI, e_getR, e_putI, e_putZ, e_putR, e_putN, e_new, e_throw, e_newarray, e_anewarray, e_alen, e_iaload, e_iastore, e_baload, e_bastore, e_aaload, e_aastore, e_aastoreN, e_laload, e_lastore, e_cast, e_castN, e_gets, e_ldcM, e_ldcI, e_objInit, e_getC, e_mmax, e_mmin, e_mabs, e_copy, e_iret, e_zret, e_aret, e_aretN, e_ret, e_v1, e_v2, e_v3, e_v4, e_v6, e_s1, e_s3, e_s6, e_c102_1, e_c102_2, e_c102_3, e_c102_4, e_c103_1, e_c104_3, e_c104_4, e_c104_5, e_c104_6, e_c104_7, zld_0, zld_s, List.set_cons_succ, List.set_cons_zero, List.length_cons, List.length_nil, Nat.reduceAdd, Nat.reduceLT, Nat.reduceLeDiff, Nat.reduceEqDiff, Nat.zero_add, true_and, and_true, and_self, zcst_0, zcst_1, zcat_ref, zcat_int, zcat_null, zcat_rf, vrf_some, vrf_none, vrf_mid, ne_eq, reduceCtorEq, not_false_eq_true, not_true_eq_false, if_true, if_false, true_implies, false_implies, Option.some.injEq, Value.int.injEq, Value.ref.injEq, Value.long.injEq, implies_true, Nat.succ_ne_self, Nat.reduceMul, zI_sI, zI_sR, zR_sI, zR_sR, zK_sI, zK_sR, zret_some, zret_none, zret_thrown, List.cons_append, List.nil_append, Option.toList, or_self, or_false, false_or, true_or, or_true, zK_mI, zR_mI, nI_add, k12]
  refine z55s (s12.put (x := -nI 1)) km (by decide) rfl rfl (by decide) (fun μ13 s13 => ?_)
  refine z55s s13 km (by decide) rfl rfl (by decide) (fun μ14 s14 => ?_)
  refine z55s s14 km (by decide) rfl rfl (by decide) (fun μ15 s15 => ?_)
  refine z55s s15 km (by decide) rfl rfl (by decide) (fun μ16 s16 => ?_)
  refine z55s s16 km (by decide) rfl rfl (by decide) (fun μ17 s17 => ?_)
  refine z55s s17 km (by decide) rfl rfl (by decide) (fun μ18 s18 => ?_)
  refine z55s s18 km (by decide) rfl rfl (by decide) (fun μ19 s19 => ?_)
  refine z55s s19 km (by decide) rfl rfl (by decide) (fun μ20 s20 => ?_)
  simp only [zt55_169, e_null, e_iconst, e_bipush, e_sipush, e_iload_n, e_iload, e_aload_n, e_aload_nN, e_aload, e_aloadN, e_istore_n, e_istore, e_astore_n, e_astore_nN, e_astore, e_astoreN, e_iinc, e_iadd, e_isub, e_imul, e_iand, e_ior, e_ishl, e_ishr, e_idiv, e_irem, e_ineg, e_i2l, e_lcmp, e_dup, e_dup_x1, e_dup2, e_pop, e_goto, e_if_eq, e_if_ne, e_if_lt, e_if_ge, e_if_gt, e_if_le, e_icmp_eq, e_icmp_ne, e_icmp_lt, e_icmp_ge, e_icmp_gt, e_icmp_le, e_acmp_eq, e_acmp_ne, e_ifnullN, e_ifnull, e_ifnonnull, e_ifnonnullN, e_getI, e_getR, e_putI, e_putZ, e_putR, e_putN, e_new, e_throw, e_newarray, e_anewarray, e_alen, e_iaload, e_iastore, e_baload, e_bastore, e_aaload, e_aastore, e_aastoreN, e_laload, e_lastore, e_cast, e_castN, e_gets, e_ldcM, e_ldcI, e_objInit, e_getC, e_mmax, e_mmin, e_mabs, e_copy, e_iret, e_zret, e_aret, e_aretN, e_ret, e_v1, e_v2, e_v3, e_v4, e_v6, e_s1, e_s3, e_s6, e_c102_1, e_c102_2, e_c102_3, e_c102_4, e_c103_1, e_c104_3, e_c104_4, e_c104_5, e_c104_6, e_c104_7, zld_0, zld_s, List.set_cons_succ, List.set_cons_zero, List.length_cons, List.length_nil, Nat.reduceAdd, Nat.reduceLT, Nat.reduceLeDiff, Nat.reduceEqDiff, Nat.zero_add, true_and, and_true, and_self, zcst_0, zcst_1, zcat_ref, zcat_int, zcat_null, zcat_rf, vrf_some, vrf_none, vrf_mid, ne_eq, reduceCtorEq, not_false_eq_true, not_true_eq_false, if_true, if_false, true_implies, false_implies, Option.some.injEq, Value.int.injEq, Value.ref.injEq, Value.long.injEq, implies_true, Nat.succ_ne_self, Nat.reduceMul, zI_sI, zI_sR, zR_sI, zR_sR, zK_sI, zK_sR, zret_some, zret_none, zret_thrown, List.cons_append, List.nil_append, Option.toList, or_self, or_false, false_or, true_or, or_true, zK_mI, zR_mI, nI_add]
  exact hq μ20 s20
end STARTS
