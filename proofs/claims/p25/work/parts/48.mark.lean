/-! ===== the class: a marking, a step ===== -/
def zgm (σ : Nat → Nat → Int32) (n : Nat) (g : Nat → Int32) : Nat → Nat → Int32 := fun f k => if f = 14 ∧ k = 0 then nI n else if f = 15 then g k else σ f k
theorem zgm_n {σ : Nat → Nat → Int32} {n f : Nat} {g : Nat → Int32} (h : f ≠ 14) (h' : f ≠ 15) : zgm σ n g f = σ f := by
  funext k
  show (if f = 14 ∧ k = 0 then nI n else if f = 15 then g k else σ f k) = _
  rw [if_neg (fun q => h q.1), if_neg h']
theorem zgm_lost {σ : Nat → Nat → Int32} {n k : Nat} {g : Nat → Int32} (hk : k < n) (hN : n ≤ 40) : zlost (zgm σ n g) k = if g k = 0 then 1 else 0 := by
  have e14 : zgm σ n g 14 0 = nI n := if_pos ⟨rfl, rfl⟩
  have e15 : zgm σ n g 15 k = g k := by
    show (if 15 = 14 ∧ k = 0 then nI n else if 15 = 15 then g k else σ 15 k) = _
    rw [if_neg (fun q => absurd q.1 (by decide)), if_pos rfl]
  unfold zlost
  rw [e14, e15]
  by_cases c : g k = 0
  · rw [if_pos ⟨nI_lt hk (by omega), c⟩, if_pos c]
  · rw [if_neg (fun q => c q.2), if_neg c]
section MARK
variable {de h mi n : Nat} {σ : Nat → Nat → Int32} {A K : Nat → Nat} {B : Nat → Nat → Nat} {V N : Nat → Nat} {Q : zRes → zM → Prop}
theorem C11 {μ : zM} (H : zHl' de h μ σ n A K B V N) (hN : n ≤ 40) (w11 : zW11 σ n) (wl : zWl σ n) (hq : ∀ μ', zHl' de h μ' (zmr (zup σ 14 0 (nI n)) n) n A K B V N → zKp h 0 0 μ μ' → Q (.inl none) μ') : zCall de mi 11 [.ref (h + 2)] μ Q := by
  have ly : ∀ s, s < 12 → σ 11 s ≠ 0 → zly σ s < n := fun s hs h0 => by
    rcases w11 s hs with q | ⟨t, ht, q⟩
    · exact absurd q h0
    · rw [zlyt (by omega) q]; exact ht
  have H0 : zHl' de h μ (zgm σ n (fun k => if zlost σ k = 1 then 0 else 1)) n A K B V N := by
    refine H.lost (fun f q q' => zgm_n q q') (fun s hs h0 => ?_)
    rw [zgm_lost (ly s hs h0) hN]
    rcases zlost_01 σ (zly σ s) with z | z
    · rw [z]; rfl
    · rw [z, if_pos rfl, if_pos rfl]
  show zH de mi 11 0 [some (.ref (h + 2)), none, none] [] _ _
  refine zx_sound (List.take 2 zt11_0) 0 _ _ _ (by decide +kernel) ?_; simp only [List.take_succ_cons, List.take_zero, zx_nil, zt11_0, zt11_1, e_null, e_iconst, e_bipush, e_sipush, e_iload_n, e_iload, e_aload_n, e_aload_nN, e_aload, e_aloadN, e_istore_n, e_istore, e_astore_n, e_astore_nN, e_astore, e_astoreN, e_iinc, e_iadd, e_isub, e_imul, e_iand, e_ior, e_ishl, e_ishr, e_idiv, e_irem, e_iushr, e_ineg, e_i2l, e_lcmp, e_dup, e_dup_x1, e_dup2, e_pop, e_goto, e_if_eq, e_if_ne, e_if_lt, e_if_ge, e_if_gt, e_if_le, e_icmp_eq, e_icmp_ne, e_icmp_lt, e_icmp_ge, e_icmp_gt, e_icmp_le, e_acmp_eq, e_acmp_ne, e_ifnullN, e_ifnull, e_ifnonnull, e_ifnonnullN, e_getI, e_getR, e_putI, e_putZ, e_putR, e_putN, e_new, e_throw, e_newarray, e_anewarray, e_alen, e_iaload, e_iastore, e_aaload, e_aastore, e_aastoreN, e_cast, e_castN, e_gets, e_ldcM, e_ldcI, e_objInit, e_getC, e_mmax, e_mmin, e_mabs, e_copy, e_iret, e_zret, e_aret, e_aretN, e_ret, e_v1, e_v2, e_v3, e_v4, e_v6, e_s1, e_s3, e_s6, e_c102_0, e_c102_1, e_c102_2, e_c102_3, e_c102_4, e_c103_1, e_c104_5, e_c104_7, zld_0, zld_s, List.set_cons_succ, List.set_cons_zero, List.length_cons, List.length_nil, Nat.reduceAdd, Nat.reduceLT, Nat.reduceLeDiff, Nat.reduceEqDiff, Nat.zero_add, true_and, and_true, and_self, zcst_0, zcst_1, zcat_ref, zcat_int, zcat_null, zcat_rf, vrf_some, vrf_none, vrf_mid, ne_eq, reduceCtorEq, not_false_eq_true, not_true_eq_false, if_true, if_false, true_implies, false_implies, Option.some.injEq, Value.int.injEq, Value.ref.injEq, Value.long.injEq, implies_true, Nat.succ_ne_self, Nat.reduceMul, zI_sI, zI_sR, zR_sI, zR_sR, zK_sI, zK_sR, zret_some, zret_none, zret_thrown, List.cons_append, List.nil_append, Option.toList, or_self, or_false, false_or, true_or, or_true, nI_add]
  refine zfor (P := fun i => ∀ μ1 g v2, zHl' de h μ1 (zgm σ n g) n A K B V N → zKp h 0 0 μ μ1 → (∀ k, k < n → g k = 0 → σ 10 k = 0) → (∀ s, s < i → σ 11 s ≠ 0 → (g (zly σ s) = 0 ↔ σ 10 (zly σ s) = 0)) → zH de mi 11 2 [some (.ref (h + 2)), some (.int (nI i)), v2] [] μ1 Q) 12 (fun i hi ih => ?_) ?_ μ _ none H0 zKp.refl (fun k hk q => ?_) (fun s hs => absurd hs (Nat.not_lt_zero s))
  · intro μ1 g v2 H1 kp g1 g2
    have sl := H1.sl hi
    rw [zgm_n (by decide) (by decide)] at sl
    have keep : (σ 11 i ≠ 0 → (g (zly σ i) = 0 ↔ σ 10 (zly σ i) = 0)) → ∀ v2, zH de mi 11 31 [some (.ref (h + 2)), some (.int (nI i)), v2] [] μ1 Q := by
      intro z v2
      have i2 := ih μ1 g v2 H1 kp g1 (fun s hs h0 => by
        by_cases e : s = i
        · rw [e] at h0 ⊢; exact z h0
        · exact g2 s (by omega) h0)
      refine k11_31 ?_; simp only [zt11_31, zt11_34, e_null, e_iconst, e_bipush, e_sipush, e_iload_n, e_iload, e_aload_n, e_aload_nN, e_aload, e_aloadN, e_istore_n, e_istore, e_astore_n, e_astore_nN, e_astore, e_astoreN, e_iinc, e_iadd, e_isub, e_imul, e_iand, e_ior, e_ishl, e_ishr, e_idiv, e_irem, e_iushr, e_ineg, e_i2l, e_lcmp, e_dup, e_dup_x1, e_dup2, e_pop, e_goto, e_if_eq, e_if_ne, e_if_lt, e_if_ge, e_if_gt, e_if_le, e_icmp_eq, e_icmp_ne, e_icmp_lt, e_icmp_ge, e_icmp_gt, e_icmp_le, e_acmp_eq, e_acmp_ne, e_ifnullN, e_ifnull, e_ifnonnull, e_ifnonnullN, e_getI, e_getR, e_putI, e_putZ, e_putR, e_putN, e_new, e_throw, e_newarray, e_anewarray, e_alen, e_iaload, e_iastore, e_aaload, e_aastore, e_aastoreN, e_cast, e_castN, e_gets, e_ldcM, e_ldcI, e_objInit, e_getC, e_mmax, e_mmin, e_mabs, e_copy, e_iret, e_zret, e_aret, e_aretN, e_ret, e_v1, e_v2, e_v3, e_v4, e_v6, e_s1, e_s3, e_s6, e_c102_0, e_c102_1, e_c102_2, e_c102_3, e_c102_4, e_c103_1, e_c104_5, e_c104_7, zld_0, zld_s, List.set_cons_succ, List.set_cons_zero, List.length_cons, List.length_nil, Nat.reduceAdd, Nat.reduceLT, Nat.reduceLeDiff, Nat.reduceEqDiff, Nat.zero_add, true_and, and_true, and_self, zcst_0, zcst_1, zcat_ref, zcat_int, zcat_null, zcat_rf, vrf_some, vrf_none, vrf_mid, ne_eq, reduceCtorEq, not_false_eq_true, not_true_eq_false, if_true, if_false, true_implies, false_implies, Option.some.injEq, Value.int.injEq, Value.ref.injEq, Value.long.injEq, implies_true, Nat.succ_ne_self, Nat.reduceMul, zI_sI, zI_sR, zR_sI, zR_sR, zK_sI, zK_sR, zret_some, zret_none, zret_thrown, List.cons_append, List.nil_append, Option.toList, or_self, or_false, false_or, true_or, or_true, nI_add]
      exact i2
    by_cases c : σ 11 i = 0
    · rw [if_pos c] at sl
      refine k11_2 ?_; simp only [zt11_2, zt11_3, zt11_5, zt11_8, zt11_9, zt11_12, zt11_13, zt11_14, zt11_15, zt11_16, zt11_19, zt11_20, zt11_23, zt11_26, zt11_27, zt11_28, zt11_31, zt11_34, e_null, e_iconst, e_bipush, e_sipush, e_iload_n, e_iload, e_aload_n, e_aload_nN, e_aload, e_aloadN, e_istore_n, e_istore, e_astore_n, e_astore_nN, e_astore, e_astoreN, e_iinc, e_iadd, e_isub, e_imul, e_iand, e_ior, e_ishl, e_ishr, e_idiv, e_irem, e_iushr, e_ineg, e_i2l, e_lcmp, e_dup, e_dup_x1, e_dup2, e_pop, e_goto, e_if_eq, e_if_ne, e_if_lt, e_if_ge, e_if_gt, e_if_le, e_icmp_eq, e_icmp_ne, e_icmp_lt, e_icmp_ge, e_icmp_gt, e_icmp_le, e_acmp_eq, e_acmp_ne, e_ifnullN, e_ifnull, e_ifnonnull, e_ifnonnullN, e_getI, e_getR, e_putI, e_putZ, e_putR, e_putN, e_new, e_throw, e_newarray, e_anewarray, e_alen, e_iaload, e_iastore, e_aaload, e_aastore, e_aastoreN, e_cast, e_castN, e_gets, e_ldcM, e_ldcI, e_objInit, e_getC, e_mmax, e_mmin, e_mabs, e_copy, e_iret, e_zret, e_aret, e_aretN, e_ret, e_v1, e_v2, e_v3, e_v4, e_v6, e_s1, e_s3, e_s6, e_c102_0, e_c102_1, e_c102_2, e_c102_3, e_c102_4, e_c103_1, e_c104_5, e_c104_7, zld_0, zld_s, List.set_cons_succ, List.set_cons_zero, List.length_cons, List.length_nil, Nat.reduceAdd, Nat.reduceLT, Nat.reduceLeDiff, Nat.reduceEqDiff, Nat.zero_add, true_and, and_true, and_self, zcst_0, zcst_1, zcat_ref, zcat_int, zcat_null, zcat_rf, vrf_some, vrf_none, vrf_mid, ne_eq, reduceCtorEq, not_false_eq_true, not_true_eq_false, if_true, if_false, true_implies, false_implies, Option.some.injEq, Value.int.injEq, Value.ref.injEq, Value.long.injEq, implies_true, Nat.succ_ne_self, Nat.reduceMul, zI_sI, zI_sR, zR_sI, zR_sR, zK_sI, zK_sR, zret_some, zret_none, zret_thrown, List.cons_append, List.nil_append, Option.toList, or_self, or_false, false_or, true_or, or_true, nI_add, H1.k2, H1.r20, H1.k3, nI_ge hi (show 12 < 2 ^ 31 by decide), nI_pos (show i < 2 ^ 31 by omega), nI_clamp (show i < 2 ^ 31 by omega), hi, sl]
      rw [e_aload_nN rfl, e_ifnullN (by decide)]
      exact keep (fun q => absurd c q) _
    · rw [if_neg c] at sl
      rcases w11 i hi with q | ⟨t, ht, et⟩
      · exact absurd q c
      have ey0 := zlyt (σ := σ) (by omega) et
      have ey : zly (zgm σ n g) i = t := zlyt (by omega) (by rw [zgm_n (by decide) (by decide)]; exact et)
      rw [ey] at sl
      have c8 := H1.c8 ht
      rw [zgm_n (by decide) (by decide)] at c8
      by_cases hh : σ 10 t = 0
      · have H2 : zHl' de h (zsI μ1 (A t) 9 (nI 1)) (zgm σ n (fun k => if k = t then 0 else g k)) n A K B V N := by
          refine H1.put9 ht (fun f q q' => by rw [zgm_n q q', zgm_n q q']) (fun s hs h0 => ?_)
          rw [zgm_n (by decide) (by decide)] at h0
          have el : zly (zgm σ n (fun k => if k = t then 0 else g k)) s = zly σ s := by unfold zly; rw [zgm_n (by decide) (by decide)]
          have el2 : zly (zgm σ n g) s = zly σ s := by unfold zly; rw [zgm_n (by decide) (by decide)]
          have lt := ly s hs h0
          rw [el, zgm_lost lt hN]
          by_cases e : zly σ s = t
          · rw [e, if_pos rfl, if_pos rfl]; exact zup_s
          · rw [if_neg e]
            have c9 := H1.c9 hs (by rw [zgm_n (by decide) (by decide)]; exact h0)
            rw [el2, zgm_lost lt hN] at c9
            exact (congrFun (zup_f (fun z => e (H1.iA lt ht z))) 9).trans c9
        have i2 := ih _ _ (some (.ref (A t))) H2 (kp.trans (zKp.putI (zpr_gt (H1.gA ht)))) (fun k hk q => by
          by_cases e : k = t
          · rw [e]; exact hh
          · rw [if_neg e] at q; exact g1 k hk q) (fun s hs h0 => by
          by_cases e : zly σ s = t
          · rw [e, if_pos rfl]; exact ⟨fun _ => hh, fun _ => rfl⟩
          · rw [if_neg e]
            by_cases e2 : s = i
            · rw [e2] at e; exact absurd ey0 e
            · exact g2 s (by omega) h0)
        refine k11_2 ?_; simp only [zt11_2, zt11_3, zt11_5, zt11_8, zt11_9, zt11_12, zt11_13, zt11_14, zt11_15, zt11_16, zt11_19, zt11_20, zt11_23, zt11_26, zt11_27, zt11_28, zt11_31, zt11_34, e_null, e_iconst, e_bipush, e_sipush, e_iload_n, e_iload, e_aload_n, e_aload_nN, e_aload, e_aloadN, e_istore_n, e_istore, e_astore_n, e_astore_nN, e_astore, e_astoreN, e_iinc, e_iadd, e_isub, e_imul, e_iand, e_ior, e_ishl, e_ishr, e_idiv, e_irem, e_iushr, e_ineg, e_i2l, e_lcmp, e_dup, e_dup_x1, e_dup2, e_pop, e_goto, e_if_eq, e_if_ne, e_if_lt, e_if_ge, e_if_gt, e_if_le, e_icmp_eq, e_icmp_ne, e_icmp_lt, e_icmp_ge, e_icmp_gt, e_icmp_le, e_acmp_eq, e_acmp_ne, e_ifnullN, e_ifnull, e_ifnonnull, e_ifnonnullN, e_getI, e_getR, e_putI, e_putZ, e_putR, e_putN, e_new, e_throw, e_newarray, e_anewarray, e_alen, e_iaload, e_iastore, e_aaload, e_aastore, e_aastoreN, e_cast, e_castN, e_gets, e_ldcM, e_ldcI, e_objInit, e_getC, e_mmax, e_mmin, e_mabs, e_copy, e_iret, e_zret, e_aret, e_aretN, e_ret, e_v1, e_v2, e_v3, e_v4, e_v6, e_s1, e_s3, e_s6, e_c102_0, e_c102_1, e_c102_2, e_c102_3, e_c102_4, e_c103_1, e_c104_5, e_c104_7, zld_0, zld_s, List.set_cons_succ, List.set_cons_zero, List.length_cons, List.length_nil, Nat.reduceAdd, Nat.reduceLT, Nat.reduceLeDiff, Nat.reduceEqDiff, Nat.zero_add, true_and, and_true, and_self, zcst_0, zcst_1, zcat_ref, zcat_int, zcat_null, zcat_rf, vrf_some, vrf_none, vrf_mid, ne_eq, reduceCtorEq, not_false_eq_true, not_true_eq_false, if_true, if_false, true_implies, false_implies, Option.some.injEq, Value.int.injEq, Value.ref.injEq, Value.long.injEq, implies_true, Nat.succ_ne_self, Nat.reduceMul, zI_sI, zI_sR, zR_sI, zR_sR, zK_sI, zK_sR, zret_some, zret_none, zret_thrown, List.cons_append, List.nil_append, Option.toList, or_self, or_false, false_or, true_or, or_true, nI_add, H1.k2, H1.r20, H1.k3, nI_ge hi (show 12 < 2 ^ 31 by decide), nI_pos (show i < 2 ^ 31 by omega), nI_clamp (show i < 2 ^ 31 by omega), hi, sl, H1.kA ht, c8, hh, n1t]
        exact i2
      · refine k11_2 ?_; simp only [zt11_2, zt11_3, zt11_5, zt11_8, zt11_9, zt11_12, zt11_13, zt11_14, zt11_15, zt11_16, zt11_19, zt11_20, zt11_23, zt11_26, zt11_27, zt11_28, zt11_31, zt11_34, e_null, e_iconst, e_bipush, e_sipush, e_iload_n, e_iload, e_aload_n, e_aload_nN, e_aload, e_aloadN, e_istore_n, e_istore, e_astore_n, e_astore_nN, e_astore, e_astoreN, e_iinc, e_iadd, e_isub, e_imul, e_iand, e_ior, e_ishl, e_ishr, e_idiv, e_irem, e_iushr, e_ineg, e_i2l, e_lcmp, e_dup, e_dup_x1, e_dup2, e_pop, e_goto, e_if_eq, e_if_ne, e_if_lt, e_if_ge, e_if_gt, e_if_le, e_icmp_eq, e_icmp_ne, e_icmp_lt, e_icmp_ge, e_icmp_gt, e_icmp_le, e_acmp_eq, e_acmp_ne, e_ifnullN, e_ifnull, e_ifnonnull, e_ifnonnullN, e_getI, e_getR, e_putI, e_putZ, e_putR, e_putN, e_new, e_throw, e_newarray, e_anewarray, e_alen, e_iaload, e_iastore, e_aaload, e_aastore, e_aastoreN, e_cast, e_castN, e_gets, e_ldcM, e_ldcI, e_objInit, e_getC, e_mmax, e_mmin, e_mabs, e_copy, e_iret, e_zret, e_aret, e_aretN, e_ret, e_v1, e_v2, e_v3, e_v4, e_v6, e_s1, e_s3, e_s6, e_c102_0, e_c102_1, e_c102_2, e_c102_3, e_c102_4, e_c103_1, e_c104_5, e_c104_7, zld_0, zld_s, List.set_cons_succ, List.set_cons_zero, List.length_cons, List.length_nil, Nat.reduceAdd, Nat.reduceLT, Nat.reduceLeDiff, Nat.reduceEqDiff, Nat.zero_add, true_and, and_true, and_self, zcst_0, zcst_1, zcat_ref, zcat_int, zcat_null, zcat_rf, vrf_some, vrf_none, vrf_mid, ne_eq, reduceCtorEq, not_false_eq_true, not_true_eq_false, if_true, if_false, true_implies, false_implies, Option.some.injEq, Value.int.injEq, Value.ref.injEq, Value.long.injEq, implies_true, Nat.succ_ne_self, Nat.reduceMul, zI_sI, zI_sR, zR_sI, zR_sR, zK_sI, zK_sR, zret_some, zret_none, zret_thrown, List.cons_append, List.nil_append, Option.toList, or_self, or_false, false_or, true_or, or_true, nI_add, H1.k2, H1.r20, H1.k3, nI_ge hi (show 12 < 2 ^ 31 by decide), nI_pos (show i < 2 ^ 31 by omega), nI_clamp (show i < 2 ^ 31 by omega), hi, sl, H1.kA ht, c8, hh]
        exact keep (fun _ => by rw [ey0]; exact ⟨fun z => g1 t ht z, fun z => absurd z hh⟩) _
  · intro μ1 g v2 H1 kp g1 g2
    refine k11_2 ?_; simp only [zt11_2, zt11_3, zt11_5, zt11_8, zt11_9, zt11_12, zt11_13, zt11_14, zt11_15, zt11_16, zt11_19, zt11_20, zt11_23, zt11_26, zt11_27, zt11_28, zt11_31, zt11_34, e_null, e_iconst, e_bipush, e_sipush, e_iload_n, e_iload, e_aload_n, e_aload_nN, e_aload, e_aloadN, e_istore_n, e_istore, e_astore_n, e_astore_nN, e_astore, e_astoreN, e_iinc, e_iadd, e_isub, e_imul, e_iand, e_ior, e_ishl, e_ishr, e_idiv, e_irem, e_iushr, e_ineg, e_i2l, e_lcmp, e_dup, e_dup_x1, e_dup2, e_pop, e_goto, e_if_eq, e_if_ne, e_if_lt, e_if_ge, e_if_gt, e_if_le, e_icmp_eq, e_icmp_ne, e_icmp_lt, e_icmp_ge, e_icmp_gt, e_icmp_le, e_acmp_eq, e_acmp_ne, e_ifnullN, e_ifnull, e_ifnonnull, e_ifnonnullN, e_getI, e_getR, e_putI, e_putZ, e_putR, e_putN, e_new, e_throw, e_newarray, e_anewarray, e_alen, e_iaload, e_iastore, e_aaload, e_aastore, e_aastoreN, e_cast, e_castN, e_gets, e_ldcM, e_ldcI, e_objInit, e_getC, e_mmax, e_mmin, e_mabs, e_copy, e_iret, e_zret, e_aret, e_aretN, e_ret, e_v1, e_v2, e_v3, e_v4, e_v6, e_s1, e_s3, e_s6, e_c102_0, e_c102_1, e_c102_2, e_c102_3, e_c102_4, e_c103_1, e_c104_5, e_c104_7, zld_0, zld_s, List.set_cons_succ, List.set_cons_zero, List.length_cons, List.length_nil, Nat.reduceAdd, Nat.reduceLT, Nat.reduceLeDiff, Nat.reduceEqDiff, Nat.zero_add, true_and, and_true, and_self, zcst_0, zcst_1, zcat_ref, zcat_int, zcat_null, zcat_rf, vrf_some, vrf_none, vrf_mid, ne_eq, reduceCtorEq, not_false_eq_true, not_true_eq_false, if_true, if_false, true_implies, false_implies, Option.some.injEq, Value.int.injEq, Value.ref.injEq, Value.long.injEq, implies_true, Nat.succ_ne_self, Nat.reduceMul, zI_sI, zI_sR, zR_sI, zR_sR, zK_sI, zK_sR, zret_some, zret_none, zret_thrown, List.cons_append, List.nil_append, Option.toList, or_self, or_false, false_or, true_or, or_true, nI_add, nI_le (Nat.le_refl 12) (show 12 < 2 ^ 31 by decide)]
    refine k11_37 ?_; simp only [zt11_37, e_null, e_iconst, e_bipush, e_sipush, e_iload_n, e_iload, e_aload_n, e_aload_nN, e_aload, e_aloadN, e_istore_n, e_istore, e_astore_n, e_astore_nN, e_astore, e_astoreN, e_iinc, e_iadd, e_isub, e_imul, e_iand, e_ior, e_ishl, e_ishr, e_idiv, e_irem, e_iushr, e_ineg, e_i2l, e_lcmp, e_dup, e_dup_x1, e_dup2, e_pop, e_goto, e_if_eq, e_if_ne, e_if_lt, e_if_ge, e_if_gt, e_if_le, e_icmp_eq, e_icmp_ne, e_icmp_lt, e_icmp_ge, e_icmp_gt, e_icmp_le, e_acmp_eq, e_acmp_ne, e_ifnullN, e_ifnull, e_ifnonnull, e_ifnonnullN, e_getI, e_getR, e_putI, e_putZ, e_putR, e_putN, e_new, e_throw, e_newarray, e_anewarray, e_alen, e_iaload, e_iastore, e_aaload, e_aastore, e_aastoreN, e_cast, e_castN, e_gets, e_ldcM, e_ldcI, e_objInit, e_getC, e_mmax, e_mmin, e_mabs, e_copy, e_iret, e_zret, e_aret, e_aretN, e_ret, e_v1, e_v2, e_v3, e_v4, e_v6, e_s1, e_s3, e_s6, e_c102_0, e_c102_1, e_c102_2, e_c102_3, e_c102_4, e_c103_1, e_c104_5, e_c104_7, zld_0, zld_s, List.set_cons_succ, List.set_cons_zero, List.length_cons, List.length_nil, Nat.reduceAdd, Nat.reduceLT, Nat.reduceLeDiff, Nat.reduceEqDiff, Nat.zero_add, true_and, and_true, and_self, zcst_0, zcst_1, zcat_ref, zcat_int, zcat_null, zcat_rf, vrf_some, vrf_none, vrf_mid, ne_eq, reduceCtorEq, not_false_eq_true, not_true_eq_false, if_true, if_false, true_implies, false_implies, Option.some.injEq, Value.int.injEq, Value.ref.injEq, Value.long.injEq, implies_true, Nat.succ_ne_self, Nat.reduceMul, zI_sI, zI_sR, zR_sI, zR_sR, zK_sI, zK_sR, zret_some, zret_none, zret_thrown, List.cons_append, List.nil_append, Option.toList, or_self, or_false, false_or, true_or, or_true, nI_add]
    refine hq μ1 (H1.lost (fun f q q' => by rw [zmr_n q', zup_f q, zgm_n q q']) (fun s hs h0 => ?_)) kp
    rw [zgm_n (by decide) (by decide)] at h0
    have el2 : zly (zgm σ n g) s = zly σ s := by unfold zly; rw [zgm_n (by decide) (by decide)]
    have lt := ly s hs h0
    rw [el2, zgm_lost lt hN]
    have e14 : zmr (zup σ 14 0 (nI n)) n 14 0 = nI n := by rw [zmr_n (by decide)]; exact zup_s
    have e15 : zmr (zup σ 14 0 (nI n)) n 15 (zly σ s) = σ 10 (zly σ s) := (if_pos ⟨rfl, lt⟩).trans (congrFun (zup_f (by decide)) _)
    unfold zlost
    rw [e14, e15]
    by_cases c : σ 10 (zly σ s) = 0
    · rw [if_pos ⟨nI_lt lt (by omega), c⟩, if_pos ((g2 s hs h0).mpr c)]
    · rw [if_neg (fun q => c q.2), if_neg (fun q => c ((g2 s hs h0).mp q))]
  · have q' : (if zlost σ k = 1 then (0 : Int32) else 1) = 0 := q
    by_cases z : zlost σ k = 1
    · exact wl.1 k hk z
    · rw [if_neg z] at q'; exact absurd q' (by decide)
end MARK

