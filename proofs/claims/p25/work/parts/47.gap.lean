/-! ===== the class: the sweep in the gap ===== -/
/-- who is lost at a marking is not held; slots hold distinct actors -/
def zWl (σ : Nat → Nat → Int32) (n : Nat) : Prop := (∀ k, k < n → zlost σ k = 1 → σ 10 k = 0) ∧ ∀ s s', s < 12 → s' < 12 → σ 11 s ≠ 0 → σ 11 s = σ 11 s' → s = s'
section GAP
variable {de h mi n : Nat} {σ : Nat → Nat → Int32} {A K : Nat → Nat} {B : Nat → Nat → Nat} {V N : Nat → Nat} {Q : zRes → zM → Prop}
theorem zlost_01 (σ : Nat → Nat → Int32) (k : Nat) : zlost σ k = 0 ∨ zlost σ k = 1 := by unfold zlost; split; exact Or.inr rfl; exact Or.inl rfl
theorem zlyt {s t : Nat} (ht : t < 1000) (e : σ 11 s = nI (t + 1)) : zly σ s = t := by unfold zly; rw [e, nI_clamp (by omega)]; rfl
/-- only lost notes change -/
theorem zHl'.put9 {k : Nat} {x : Int32} {σ' : Nat → Nat → Int32} {μ : zM} (H : zHl' de h μ σ n A K B V N) (hk : k < n) (hσ : ∀ f, f ≠ 14 → f ≠ 15 → σ' f = σ f) (lt : zLt (zsI μ (A k) 9 x) σ' A) : zHl' de h (zsI μ (A k) 9 x) σ' n A K B V N := by
  have kk := H.kA hk
  have ne : ∀ a t w, zK μ a = (t, w) → t ≠ 2 → zI (zsI μ (A k) 9 x) a = zI μ a := fun a t w q q2 => zup_f (fun z => by rw [z, kk] at q; exact q2 (congrArg Prod.fst q).symm)
  have yl : ∀ s, zly σ' s = zly σ s := fun s => by unfold zly; rw [hσ 11 (by decide) (by decide)]
  refine H.re rfl rfl (fun a ha => ?_) (fun a _ => rfl) (fun g hg => hσ g (by omega) (by omega)) ⟨fun s hs => ?_, ?_⟩ ⟨?_, ?_⟩ (fun i hi => ?_) lt
  · exact zup_f (fun z => by rw [z, kk] at ha; revert ha; simp)
  · rw [ne _ _ _ H.k4 (by decide), hσ 12 (by decide) (by decide), hσ 11 (by decide) (by decide), yl]
    exact ⟨H.ag hs, H.sl hs⟩
  · rw [ne _ _ _ H.k2 (by decide), hσ 13 (by decide) (by decide)]; exact H.nx
  · rw [ne _ _ _ H.kh (by decide), hσ 16 (by decide) (by decide)]; exact H.fr
  · rw [ne _ _ _ H.kh (by decide), hσ 26 (by decide) (by decide)]; exact H.er
  · rw [hσ 1 (by decide) (by decide), hσ 2 (by decide) (by decide), hσ 3 (by decide) (by decide), hσ 4 (by decide) (by decide), hσ 5 (by decide) (by decide), hσ 6 (by decide) (by decide), hσ 10 (by decide) (by decide)]
    have r : ∀ j', j' ≠ 9 → zI (zsI μ (A k) 9 x) (A i) j' = zI μ (A i) j' := fun j' q => zup_k q
    rw [r 0 (by decide), r 1 (by decide), r 3 (by decide), r 4 (by decide), r 5 (by decide), r 6 (by decide), r 7 (by decide), r 8 (by decide)]
    exact H.co hi
theorem zHl'.lost {σ' : Nat → Nat → Int32} {μ : zM} (H : zHl' de h μ σ n A K B V N) (hσ : ∀ f, f ≠ 14 → f ≠ 15 → σ' f = σ f) (lt : ∀ s, s < 12 → σ 11 s ≠ 0 → zlost σ' (zly σ s) = zlost σ (zly σ s)) : zHl' de h μ σ' n A K B V N := by
  have yl : ∀ s, zly σ' s = zly σ s := fun s => by unfold zly; rw [hσ 11 (by decide) (by decide)]
  refine H.re rfl rfl (fun a ha => rfl) (fun a _ => rfl) (fun g hg => hσ g (by omega) (by omega)) ⟨fun s hs => ?_, ?_⟩ ⟨?_, ?_⟩ (fun i hi => ?_) (fun s hs h0 => ?_)
  · rw [hσ 12 (by decide) (by decide), hσ 11 (by decide) (by decide), yl]
    exact ⟨H.ag hs, H.sl hs⟩
  · rw [hσ 13 (by decide) (by decide)]; exact H.nx
  · rw [hσ 16 (by decide) (by decide)]; exact H.fr
  · rw [hσ 26 (by decide) (by decide)]; exact H.er
  · rw [hσ 1 (by decide) (by decide), hσ 2 (by decide) (by decide), hσ 3 (by decide) (by decide), hσ 4 (by decide) (by decide), hσ 5 (by decide) (by decide), hσ 6 (by decide) (by decide), hσ 10 (by decide) (by decide)]
    exact H.co hi
  · rw [hσ 11 (by decide) (by decide)] at h0
    rw [yl, lt s hs h0]; exact H.c9 hs h0
/-- a look at slot s -/
theorem C12 {s : Nat} {μ : zM} (H : zHl' de h μ σ n A K B V N) (hN : n ≤ 40) (w11 : zW11 σ n) (hs : s < 12) (hq : ∀ μ', zHl' de h μ' (zup σ 11 s (zlv1 σ s)) n A K B V N → zKp h 0 0 μ μ' → Q (.inl none) μ') : zCall de mi 12 [.ref (h + 2), .int (nI s)] μ Q := by
  have sl := H.sl hs
  have same : zlv1 σ s = σ 11 s → zHl' de h μ (zup σ 11 s (zlv1 σ s)) n A K B V N := by
    intro e
    have : zup σ 11 s (zlv1 σ s) = σ := by
      funext f k
      show (if f = 11 ∧ k = s then zlv1 σ s else σ f k) = σ f k
      by_cases q : f = 11 ∧ k = s
      · rw [if_pos q, e, q.1, q.2]
      · rw [if_neg q]
    rw [this]; exact H
  show zH de mi 12 0 [some (.ref (h + 2)), some (.int (nI s)), none] [] _ _
  by_cases c : σ 11 s = 0
  · rw [if_pos c] at sl
    refine k12_0 ?_; simp only [zt12_0, zt12_1, zt12_4, zt12_5, zt12_6, zt12_7, zt12_8, zt12_11, zt12_12, zt12_15, zt12_18, zt12_19, zt12_22, zt12_23, zt12_24, zt12_25, e_null, e_iconst, e_bipush, e_sipush, e_iload_n, e_iload, e_aload_n, e_aload_nN, e_aload, e_aloadN, e_istore_n, e_istore, e_astore_n, e_astore_nN, e_astore, e_astoreN, e_iinc, e_iadd, e_isub, e_imul, e_iand, e_ior, e_ishl, e_ishr, e_idiv, e_irem, e_iushr, e_ineg, e_i2l, e_lcmp, e_dup, e_dup_x1, e_dup2, e_pop, e_goto, e_if_eq, e_if_ne, e_if_lt, e_if_ge, e_if_gt, e_if_le, e_icmp_eq, e_icmp_ne, e_icmp_lt, e_icmp_ge, e_icmp_gt, e_icmp_le, e_acmp_eq, e_acmp_ne, e_ifnullN, e_ifnull, e_ifnonnull, e_ifnonnullN, e_getI, e_getR, e_putI, e_putZ, e_putR, e_putN, e_new, e_throw, e_newarray, e_anewarray, e_alen, e_iaload, e_iastore, e_aaload, e_aastore, e_aastoreN, e_cast, e_castN, e_gets, e_ldcM, e_ldcI, e_objInit, e_getC, e_mmax, e_mmin, e_mabs, e_copy, e_iret, e_zret, e_aret, e_aretN, e_ret, e_v1, e_v2, e_v3, e_v4, e_v6, e_s1, e_s3, e_s6, e_c102_0, e_c102_1, e_c102_2, e_c102_3, e_c102_4, e_c103_1, e_c104_5, e_c104_7, zld_0, zld_s, List.set_cons_succ, List.set_cons_zero, List.length_cons, List.length_nil, Nat.reduceAdd, Nat.reduceLT, Nat.reduceLeDiff, Nat.reduceEqDiff, Nat.zero_add, true_and, and_true, and_self, zcst_0, zcst_1, zcat_ref, zcat_int, zcat_null, zcat_rf, vrf_some, vrf_none, vrf_mid, ne_eq, reduceCtorEq, not_false_eq_true, not_true_eq_false, if_true, if_false, true_implies, false_implies, Option.some.injEq, Value.int.injEq, Value.ref.injEq, Value.long.injEq, implies_true, Nat.succ_ne_self, Nat.reduceMul, zI_sI, zI_sR, zR_sI, zR_sR, zK_sI, zK_sR, zret_some, zret_none, zret_thrown, List.cons_append, List.nil_append, Option.toList, or_self, or_false, false_or, true_or, or_true, nI_add, H.k2, H.r20, H.k3, nI_pos (show s < 2 ^ 31 by omega), nI_clamp (show s < 2 ^ 31 by omega), hs, sl]
    rw [e_aload_nN rfl, e_ifnullN (by decide)]
    refine k12_25 ?_; simp only [zt12_25, e_null, e_iconst, e_bipush, e_sipush, e_iload_n, e_iload, e_aload_n, e_aload_nN, e_aload, e_aloadN, e_istore_n, e_istore, e_astore_n, e_astore_nN, e_astore, e_astoreN, e_iinc, e_iadd, e_isub, e_imul, e_iand, e_ior, e_ishl, e_ishr, e_idiv, e_irem, e_iushr, e_ineg, e_i2l, e_lcmp, e_dup, e_dup_x1, e_dup2, e_pop, e_goto, e_if_eq, e_if_ne, e_if_lt, e_if_ge, e_if_gt, e_if_le, e_icmp_eq, e_icmp_ne, e_icmp_lt, e_icmp_ge, e_icmp_gt, e_icmp_le, e_acmp_eq, e_acmp_ne, e_ifnullN, e_ifnull, e_ifnonnull, e_ifnonnullN, e_getI, e_getR, e_putI, e_putZ, e_putR, e_putN, e_new, e_throw, e_newarray, e_anewarray, e_alen, e_iaload, e_iastore, e_aaload, e_aastore, e_aastoreN, e_cast, e_castN, e_gets, e_ldcM, e_ldcI, e_objInit, e_getC, e_mmax, e_mmin, e_mabs, e_copy, e_iret, e_zret, e_aret, e_aretN, e_ret, e_v1, e_v2, e_v3, e_v4, e_v6, e_s1, e_s3, e_s6, e_c102_0, e_c102_1, e_c102_2, e_c102_3, e_c102_4, e_c103_1, e_c104_5, e_c104_7, zld_0, zld_s, List.set_cons_succ, List.set_cons_zero, List.length_cons, List.length_nil, Nat.reduceAdd, Nat.reduceLT, Nat.reduceLeDiff, Nat.reduceEqDiff, Nat.zero_add, true_and, and_true, and_self, zcst_0, zcst_1, zcat_ref, zcat_int, zcat_null, zcat_rf, vrf_some, vrf_none, vrf_mid, ne_eq, reduceCtorEq, not_false_eq_true, not_true_eq_false, if_true, if_false, true_implies, false_implies, Option.some.injEq, Value.int.injEq, Value.ref.injEq, Value.long.injEq, implies_true, Nat.succ_ne_self, Nat.reduceMul, zI_sI, zI_sR, zR_sI, zR_sR, zK_sI, zK_sR, zret_some, zret_none, zret_thrown, List.cons_append, List.nil_append, Option.toList, or_self, or_false, false_or, true_or, or_true, nI_add]
    exact hq μ (same (by unfold zlv1; rw [if_neg (fun q => q.1 c)])) zKp.refl
  · rw [if_neg c] at sl
    rcases w11 s hs with q | ⟨t, ht, et⟩
    · exact absurd q c
    have ey := zlyt (σ := σ) (by omega) et
    have c9 := H.c9 hs c
    rw [ey] at sl c9
    have ev : zlv1 σ s = if zlost σ t = 1 then 0 else σ 11 s := by
      unfold zlv1 zlost
      rw [et, nI_clamp (by omega), Nat.add_sub_cancel]
      by_cases q : nI t < σ 14 0 ∧ σ 15 t = 0
      · rw [if_pos q, if_pos ⟨by rw [← et]; exact c, q⟩, if_pos rfl]
      · rw [if_neg q, if_neg (fun z => q z.2), if_neg (by decide)]
    rcases zlost_01 σ t with z | z
    · rw [z] at c9
      rw [z, if_neg (by decide)] at ev
      refine k12_0 ?_; simp only [zt12_0, zt12_1, zt12_4, zt12_5, zt12_6, zt12_7, zt12_8, zt12_11, zt12_12, zt12_15, zt12_18, zt12_19, zt12_22, zt12_23, zt12_24, zt12_25, e_null, e_iconst, e_bipush, e_sipush, e_iload_n, e_iload, e_aload_n, e_aload_nN, e_aload, e_aloadN, e_istore_n, e_istore, e_astore_n, e_astore_nN, e_astore, e_astoreN, e_iinc, e_iadd, e_isub, e_imul, e_iand, e_ior, e_ishl, e_ishr, e_idiv, e_irem, e_iushr, e_ineg, e_i2l, e_lcmp, e_dup, e_dup_x1, e_dup2, e_pop, e_goto, e_if_eq, e_if_ne, e_if_lt, e_if_ge, e_if_gt, e_if_le, e_icmp_eq, e_icmp_ne, e_icmp_lt, e_icmp_ge, e_icmp_gt, e_icmp_le, e_acmp_eq, e_acmp_ne, e_ifnullN, e_ifnull, e_ifnonnull, e_ifnonnullN, e_getI, e_getR, e_putI, e_putZ, e_putR, e_putN, e_new, e_throw, e_newarray, e_anewarray, e_alen, e_iaload, e_iastore, e_aaload, e_aastore, e_aastoreN, e_cast, e_castN, e_gets, e_ldcM, e_ldcI, e_objInit, e_getC, e_mmax, e_mmin, e_mabs, e_copy, e_iret, e_zret, e_aret, e_aretN, e_ret, e_v1, e_v2, e_v3, e_v4, e_v6, e_s1, e_s3, e_s6, e_c102_0, e_c102_1, e_c102_2, e_c102_3, e_c102_4, e_c103_1, e_c104_5, e_c104_7, zld_0, zld_s, List.set_cons_succ, List.set_cons_zero, List.length_cons, List.length_nil, Nat.reduceAdd, Nat.reduceLT, Nat.reduceLeDiff, Nat.reduceEqDiff, Nat.zero_add, true_and, and_true, and_self, zcst_0, zcst_1, zcat_ref, zcat_int, zcat_null, zcat_rf, vrf_some, vrf_none, vrf_mid, ne_eq, reduceCtorEq, not_false_eq_true, not_true_eq_false, if_true, if_false, true_implies, false_implies, Option.some.injEq, Value.int.injEq, Value.ref.injEq, Value.long.injEq, implies_true, Nat.succ_ne_self, Nat.reduceMul, zI_sI, zI_sR, zR_sI, zR_sR, zK_sI, zK_sR, zret_some, zret_none, zret_thrown, List.cons_append, List.nil_append, Option.toList, or_self, or_false, false_or, true_or, or_true, nI_add, H.k2, H.r20, H.k3, nI_pos (show s < 2 ^ 31 by omega), nI_clamp (show s < 2 ^ 31 by omega), hs, sl, H.kA ht, c9]
      refine k12_25 ?_; simp only [zt12_25, e_null, e_iconst, e_bipush, e_sipush, e_iload_n, e_iload, e_aload_n, e_aload_nN, e_aload, e_aloadN, e_istore_n, e_istore, e_astore_n, e_astore_nN, e_astore, e_astoreN, e_iinc, e_iadd, e_isub, e_imul, e_iand, e_ior, e_ishl, e_ishr, e_idiv, e_irem, e_iushr, e_ineg, e_i2l, e_lcmp, e_dup, e_dup_x1, e_dup2, e_pop, e_goto, e_if_eq, e_if_ne, e_if_lt, e_if_ge, e_if_gt, e_if_le, e_icmp_eq, e_icmp_ne, e_icmp_lt, e_icmp_ge, e_icmp_gt, e_icmp_le, e_acmp_eq, e_acmp_ne, e_ifnullN, e_ifnull, e_ifnonnull, e_ifnonnullN, e_getI, e_getR, e_putI, e_putZ, e_putR, e_putN, e_new, e_throw, e_newarray, e_anewarray, e_alen, e_iaload, e_iastore, e_aaload, e_aastore, e_aastoreN, e_cast, e_castN, e_gets, e_ldcM, e_ldcI, e_objInit, e_getC, e_mmax, e_mmin, e_mabs, e_copy, e_iret, e_zret, e_aret, e_aretN, e_ret, e_v1, e_v2, e_v3, e_v4, e_v6, e_s1, e_s3, e_s6, e_c102_0, e_c102_1, e_c102_2, e_c102_3, e_c102_4, e_c103_1, e_c104_5, e_c104_7, zld_0, zld_s, List.set_cons_succ, List.set_cons_zero, List.length_cons, List.length_nil, Nat.reduceAdd, Nat.reduceLT, Nat.reduceLeDiff, Nat.reduceEqDiff, Nat.zero_add, true_and, and_true, and_self, zcst_0, zcst_1, zcat_ref, zcat_int, zcat_null, zcat_rf, vrf_some, vrf_none, vrf_mid, ne_eq, reduceCtorEq, not_false_eq_true, not_true_eq_false, if_true, if_false, true_implies, false_implies, Option.some.injEq, Value.int.injEq, Value.ref.injEq, Value.long.injEq, implies_true, Nat.succ_ne_self, Nat.reduceMul, zI_sI, zI_sR, zR_sI, zR_sR, zK_sI, zK_sR, zret_some, zret_none, zret_thrown, List.cons_append, List.nil_append, Option.toList, or_self, or_false, false_or, true_or, or_true, nI_add]
      exact hq μ (same ev) zKp.refl
    · rw [z] at c9
      rw [z, if_pos rfl] at ev
      have H2 := H.putS (s := s)
      rw [← ev] at H2
      have n1 : ¬ (1 : Int32) = 0 := by decide
      refine k12_0 ?_; simp only [zt12_0, zt12_1, zt12_4, zt12_5, zt12_6, zt12_7, zt12_8, zt12_11, zt12_12, zt12_15, zt12_18, zt12_19, zt12_22, zt12_23, zt12_24, zt12_25, e_null, e_iconst, e_bipush, e_sipush, e_iload_n, e_iload, e_aload_n, e_aload_nN, e_aload, e_aloadN, e_istore_n, e_istore, e_astore_n, e_astore_nN, e_astore, e_astoreN, e_iinc, e_iadd, e_isub, e_imul, e_iand, e_ior, e_ishl, e_ishr, e_idiv, e_irem, e_iushr, e_ineg, e_i2l, e_lcmp, e_dup, e_dup_x1, e_dup2, e_pop, e_goto, e_if_eq, e_if_ne, e_if_lt, e_if_ge, e_if_gt, e_if_le, e_icmp_eq, e_icmp_ne, e_icmp_lt, e_icmp_ge, e_icmp_gt, e_icmp_le, e_acmp_eq, e_acmp_ne, e_ifnullN, e_ifnull, e_ifnonnull, e_ifnonnullN, e_getI, e_getR, e_putI, e_putZ, e_putR, e_putN, e_new, e_throw, e_newarray, e_anewarray, e_alen, e_iaload, e_iastore, e_aaload, e_aastore, e_aastoreN, e_cast, e_castN, e_gets, e_ldcM, e_ldcI, e_objInit, e_getC, e_mmax, e_mmin, e_mabs, e_copy, e_iret, e_zret, e_aret, e_aretN, e_ret, e_v1, e_v2, e_v3, e_v4, e_v6, e_s1, e_s3, e_s6, e_c102_0, e_c102_1, e_c102_2, e_c102_3, e_c102_4, e_c103_1, e_c104_5, e_c104_7, zld_0, zld_s, List.set_cons_succ, List.set_cons_zero, List.length_cons, List.length_nil, Nat.reduceAdd, Nat.reduceLT, Nat.reduceLeDiff, Nat.reduceEqDiff, Nat.zero_add, true_and, and_true, and_self, zcst_0, zcst_1, zcat_ref, zcat_int, zcat_null, zcat_rf, vrf_some, vrf_none, vrf_mid, ne_eq, reduceCtorEq, not_false_eq_true, not_true_eq_false, if_true, if_false, true_implies, false_implies, Option.some.injEq, Value.int.injEq, Value.ref.injEq, Value.long.injEq, implies_true, Nat.succ_ne_self, Nat.reduceMul, zI_sI, zI_sR, zR_sI, zR_sR, zK_sI, zK_sR, zret_some, zret_none, zret_thrown, List.cons_append, List.nil_append, Option.toList, or_self, or_false, false_or, true_or, or_true, nI_add, H.k2, H.r20, H.k3, nI_pos (show s < 2 ^ 31 by omega), nI_clamp (show s < 2 ^ 31 by omega), hs, sl, H.kA ht, c9, n1]
      exact hq _ H2 (zKp.putR (zpr_h (show 3 ≤ 6 by decide)))
end GAP

