/-! ===== the class: all hits of a frame ===== -/
def zpres (σ : Nat → Nat → Int32) (n : Nat) (c s : Int32) : Prop := ∃ k, k < n ∧ σ 10 k ≠ 0 ∧ σ 2 k = c ∧ σ 4 k = s
def zhg (σ : Nat → Nat → Int32) (n c k : Nat) : Int32 := if σ 2 k < nI c then σ 5 k - zme σ k n else σ 5 k
theorem zhg_up {σ : Nat → Nat → Int32} {n c : Nat} (hc : c < 10) (wc : zWc σ n) (p0 : zpres σ n (nI c) (nI 0)) (p1 : zpres σ n (nI c) (nI 1)) : zrw (zrw σ 5 n (zhg σ n c)) 5 n (zh1 σ (nI c) (zrw σ 5 n (zhg σ n c))) = zrw σ 5 n (zhg σ n (c + 1)) := by
  funext f k
  show (if f = 5 ∧ k < n then zh1 σ (nI c) (zrw σ 5 n (zhg σ n c)) k else (if f = 5 ∧ k < n then zhg σ n c k else σ f k)) = if f = 5 ∧ k < n then zhg σ n (c + 1) k else σ f k
  by_cases q : f = 5 ∧ k < n
  · rw [if_pos q, if_pos q]
    obtain ⟨⟨d, hd, ed⟩, hs⟩ := wc k q.2
    unfold zh1
    rw [zrw_l q.2]
    unfold zhg
    rw [ed]
    by_cases e : d = c
    · subst e
      rw [if_neg (nI_nlt (Nat.le_refl d) (by omega)), if_pos (nI_lt (Nat.lt_succ_self d) (by omega))]
      by_cases hh : σ 10 k = 0
      · rw [if_neg (fun z => z.1 hh), zme_0 (fun i _ => decide_eq_false (fun z => z.1 hh)), nI_0, Int32.sub_zero]
      · rw [if_pos ⟨hh, rfl⟩]
        have : zme σ k n = nI 1 := by
          rcases hs with hs | hs
          · obtain ⟨i, hi, a1, a2, a3⟩ := p1
            exact zme_1 hi (decide_eq_true ⟨hh, a1, a2.trans ed.symm, by rw [a3, hs]; decide +kernel⟩)
          · obtain ⟨i, hi, a1, a2, a3⟩ := p0
            exact zme_1 hi (decide_eq_true ⟨hh, a1, a2.trans ed.symm, by rw [a3, hs]; decide +kernel⟩)
        rw [this]
    · have e1 : ¬ (σ 10 k ≠ 0 ∧ nI d = nI c) := fun z => e ((nI_eq (by omega) (by omega)).mp z.2)
      rw [if_neg e1]
      by_cases c2 : d < c
      · rw [if_pos (nI_lt c2 (by omega)), if_pos (nI_lt (by omega) (by omega))]
      · rw [if_neg (nI_nlt (by omega) (by omega)), if_neg (nI_nlt (by omega) (by omega))]
  · rw [if_neg q, if_neg q, if_neg q]
theorem zhg_skip {σ : Nat → Nat → Int32} {n c : Nat} (hc : c < 10) (wc : zWc σ n) (p : ¬ (zpres σ n (nI c) (nI 0) ∧ zpres σ n (nI c) (nI 1))) : zrw σ 5 n (zhg σ n (c + 1)) = zrw σ 5 n (zhg σ n c) := by
  funext f k
  show (if f = 5 ∧ k < n then zhg σ n (c + 1) k else σ f k) = if f = 5 ∧ k < n then zhg σ n c k else σ f k
  by_cases q : f = 5 ∧ k < n
  · rw [if_pos q, if_pos q]
    obtain ⟨⟨d, hd, ed⟩, hs⟩ := wc k q.2
    unfold zhg
    rw [ed]
    by_cases e : d = c
    · subst e
      rw [if_neg (nI_nlt (Nat.le_refl d) (by omega)), if_pos (nI_lt (Nat.lt_succ_self d) (by omega))]
      rw [zme_0 (fun i hi => decide_eq_false (fun z => ?_)), nI_0, Int32.sub_zero]
      obtain ⟨z1, z2, z3, z4⟩ := z
      refine p ?_
      rcases hs with hs | hs
      · refine ⟨⟨k, q.2, z1, ed, hs⟩, i, hi, z2, z3.trans ed, ?_⟩
        exact (wc i hi).2.resolve_left (fun r => z4 (r.trans hs.symm))
      · refine ⟨⟨i, hi, z2, z3.trans ed, ?_⟩, k, q.2, z1, ed, hs⟩
        exact (wc i hi).2.resolve_right (fun r => z4 (r.trans hs.symm))
    · by_cases c2 : d < c
      · rw [if_pos (nI_lt c2 (by omega)), if_pos (nI_lt (by omega) (by omega))]
      · rw [if_neg (nI_nlt (by omega) (by omega)), if_neg (nI_nlt (by omega) (by omega))]
  · rw [if_neg q, if_neg q]
section HITS
variable {de h mi n : Nat} {σ : Nat → Nat → Int32} {A K : Nat → Nat} {B : Nat → Nat → Nat} {V N : Nat → Nat} {Q : zRes → zM → Prop}
theorem C51t {c s : Int32} {μ : zM} {τ : Nat → Nat → Int32} (H : zHl' de h μ τ n A K B V N) (hN : n ≤ 40) (e10 : τ 10 = σ 10) (e2 : τ 2 = σ 2) (e4 : τ 4 = σ 4) (p : zpres σ n c s) : zCall de mi 51 [.ref h, .int c, .int s] μ Q = Q (.inl (some (.int (nI 1)))) μ := by
  refine zCall.one (C51' H hN (fun k _ _ _ _ => ⟨rfl, rfl⟩) (fun q => ?_)) Q
  obtain ⟨k, hk, a, b, d⟩ := p
  exact absurd ⟨by rw [e10]; exact a, by rw [e2]; exact b, by rw [e4]; exact d⟩ (q k hk)
theorem C51f {c s : Int32} {μ : zM} {τ : Nat → Nat → Int32} (H : zHl' de h μ τ n A K B V N) (hN : n ≤ 40) (e10 : τ 10 = σ 10) (e2 : τ 2 = σ 2) (e4 : τ 4 = σ 4) (p : ¬ zpres σ n c s) : zCall de mi 51 [.ref h, .int c, .int s] μ Q = Q (.inl (some (.int (nI 0)))) μ := by
  refine zCall.one (C51' H hN (fun k hk a b d => ?_) (fun _ => ⟨rfl, rfl⟩)) Q
  exact absurd ⟨k, hk, by rw [← e10]; exact a, by rw [← e2]; exact b, by rw [← e4]; exact d⟩ p
theorem C50 {μ : zM} (H : zHl' de h μ σ n A K B V N) (hN : n ≤ 40) (w7 : zW7 σ n) (w9 : zW9 σ n) (w11 : zW11 σ n) (wc : zWc σ n) (hq : ∀ μ', zHl' de h μ' (zho (zhr σ n n) n) n A K B V N → zKp h 0 0 μ μ' → Q (.inl none) μ') : zCall de mi 50 [.ref h] μ Q := by
  have n10 : ¬ nI 1 = 0 := by decide +kernel
  have H0 : zHl' de h μ (zrw σ 5 n (zhg σ n 0)) n A K B V N := by
    have : zrw σ 5 n (zhg σ n 0) = σ := by
      funext f k
      show (if f = 5 ∧ k < n then zhg σ n 0 k else σ f k) = σ f k
      by_cases q : f = 5 ∧ k < n
      · obtain ⟨⟨d, hd, ed⟩, -⟩ := wc k q.2
        rw [if_pos q, q.1]
        unfold zhg
        rw [ed, if_neg (nI_nlt (Nat.zero_le d) (by omega))]
      · rw [if_neg q]
    rw [this]; exact H
  show zH de mi 50 0 [some (.ref h), none] [] _ _
  refine zx_sound (List.take 2 zt50_0) 0 _ _ _ (by decide +kernel) ?_; simp only [List.take_succ_cons, List.take_zero, zx_nil, zt50_0, zt50_1, e_null, e_iconst, e_bipush, e_sipush, e_iload_n, e_iload, e_aload_n, e_aload_nN, e_aload, e_aloadN, e_istore_n, e_istore, e_astore_n, e_astore_nN, e_astore, e_astoreN, e_iinc, e_iadd, e_isub, e_imul, e_iand, e_ior, e_ishl, e_ishr, e_idiv, e_irem, e_iushr, e_ineg, e_i2l, e_lcmp, e_dup, e_dup_x1, e_dup2, e_pop, e_goto, e_if_eq, e_if_ne, e_if_lt, e_if_ge, e_if_gt, e_if_le, e_icmp_eq, e_icmp_ne, e_icmp_lt, e_icmp_ge, e_icmp_gt, e_icmp_le, e_acmp_eq, e_acmp_ne, e_ifnullN, e_ifnull, e_ifnonnull, e_ifnonnullN, e_getI, e_getR, e_putI, e_putZ, e_putR, e_putN, e_new, e_throw, e_newarray, e_anewarray, e_alen, e_iaload, e_iastore, e_aaload, e_aastore, e_aastoreN, e_cast, e_castN, e_gets, e_ldcM, e_ldcI, e_objInit, e_getC, e_mmax, e_mmin, e_mabs, e_copy, e_iret, e_zret, e_aret, e_aretN, e_ret, e_v1, e_v2, e_v3, e_v4, e_v6, e_s1, e_s3, e_s6, e_c102_0, e_c102_1, e_c102_2, e_c102_3, e_c102_4, e_c103_1, e_c104_5, e_c104_7, zld_0, zld_s, List.set_cons_succ, List.set_cons_zero, List.length_cons, List.length_nil, Nat.reduceAdd, Nat.reduceLT, Nat.reduceLeDiff, Nat.reduceEqDiff, Nat.zero_add, true_and, and_true, and_self, zcst_0, zcst_1, zcat_ref, zcat_int, zcat_null, zcat_rf, vrf_some, vrf_none, vrf_mid, ne_eq, reduceCtorEq, not_false_eq_true, not_true_eq_false, if_true, if_false, true_implies, false_implies, Option.some.injEq, Value.int.injEq, Value.ref.injEq, Value.long.injEq, implies_true, Nat.succ_ne_self, Nat.reduceMul, zI_sI, zI_sR, zR_sI, zR_sR, zK_sI, zK_sR, zret_some, zret_none, zret_thrown, List.cons_append, List.nil_append, Option.toList, or_self, or_false, false_or, true_or, or_true, nI_add]
  refine zfor (P := fun c => ∀ μ1, zHl' de h μ1 (zrw σ 5 n (zhg σ n c)) n A K B V N → zKp h 0 0 μ μ1 → zH de mi 50 2 [some (.ref h), some (.int (nI c))] [] μ1 Q) 10 (fun c hc ih => ?_) ?_ μ H0 zKp.refl
  · intro μ1 H1 kp
    have r10 : zrw σ 5 n (zhg σ n c) 10 = σ 10 := zrw_n (by decide)
    have r2 : zrw σ 5 n (zhg σ n c) 2 = σ 2 := zrw_n (by decide)
    have r4 : zrw σ 5 n (zhg σ n c) 4 = σ 4 := zrw_n (by decide)
    have skip : ¬ (zpres σ n (nI c) (nI 0) ∧ zpres σ n (nI c) (nI 1)) → zH de mi 50 31 [some (.ref h), some (.int (nI c))] [] μ1 Q := by
      intro q
      have i2 := ih μ1 (by rw [zhg_skip hc wc q]; exact H1) kp
      refine k50_31 ?_; simp only [zt50_31, zt50_34, e_null, e_iconst, e_bipush, e_sipush, e_iload_n, e_iload, e_aload_n, e_aload_nN, e_aload, e_aloadN, e_istore_n, e_istore, e_astore_n, e_astore_nN, e_astore, e_astoreN, e_iinc, e_iadd, e_isub, e_imul, e_iand, e_ior, e_ishl, e_ishr, e_idiv, e_irem, e_iushr, e_ineg, e_i2l, e_lcmp, e_dup, e_dup_x1, e_dup2, e_pop, e_goto, e_if_eq, e_if_ne, e_if_lt, e_if_ge, e_if_gt, e_if_le, e_icmp_eq, e_icmp_ne, e_icmp_lt, e_icmp_ge, e_icmp_gt, e_icmp_le, e_acmp_eq, e_acmp_ne, e_ifnullN, e_ifnull, e_ifnonnull, e_ifnonnullN, e_getI, e_getR, e_putI, e_putZ, e_putR, e_putN, e_new, e_throw, e_newarray, e_anewarray, e_alen, e_iaload, e_iastore, e_aaload, e_aastore, e_aastoreN, e_cast, e_castN, e_gets, e_ldcM, e_ldcI, e_objInit, e_getC, e_mmax, e_mmin, e_mabs, e_copy, e_iret, e_zret, e_aret, e_aretN, e_ret, e_v1, e_v2, e_v3, e_v4, e_v6, e_s1, e_s3, e_s6, e_c102_0, e_c102_1, e_c102_2, e_c102_3, e_c102_4, e_c103_1, e_c104_5, e_c104_7, zld_0, zld_s, List.set_cons_succ, List.set_cons_zero, List.length_cons, List.length_nil, Nat.reduceAdd, Nat.reduceLT, Nat.reduceLeDiff, Nat.reduceEqDiff, Nat.zero_add, true_and, and_true, and_self, zcst_0, zcst_1, zcat_ref, zcat_int, zcat_null, zcat_rf, vrf_some, vrf_none, vrf_mid, ne_eq, reduceCtorEq, not_false_eq_true, not_true_eq_false, if_true, if_false, true_implies, false_implies, Option.some.injEq, Value.int.injEq, Value.ref.injEq, Value.long.injEq, implies_true, Nat.succ_ne_self, Nat.reduceMul, zI_sI, zI_sR, zR_sI, zR_sR, zK_sI, zK_sR, zret_some, zret_none, zret_thrown, List.cons_append, List.nil_append, Option.toList, or_self, or_false, false_or, true_or, or_true, nI_add]
      exact i2
    by_cases p0 : zpres σ n (nI c) (nI 0)
    · by_cases p1 : zpres σ n (nI c) (nI 1)
      · refine k50_2 ?_; simp only [zt50_2, zt50_3, zt50_5, zt50_8, zt50_9, zt50_10, zt50_11, zt50_14, zt50_17, zt50_18, zt50_19, zt50_20, zt50_23, zt50_26, zt50_27, zt50_28, zt50_31, zt50_34, e_null, e_iconst, e_bipush, e_sipush, e_iload_n, e_iload, e_aload_n, e_aload_nN, e_aload, e_aloadN, e_istore_n, e_istore, e_astore_n, e_astore_nN, e_astore, e_astoreN, e_iinc, e_iadd, e_isub, e_imul, e_iand, e_ior, e_ishl, e_ishr, e_idiv, e_irem, e_iushr, e_ineg, e_i2l, e_lcmp, e_dup, e_dup_x1, e_dup2, e_pop, e_goto, e_if_eq, e_if_ne, e_if_lt, e_if_ge, e_if_gt, e_if_le, e_icmp_eq, e_icmp_ne, e_icmp_lt, e_icmp_ge, e_icmp_gt, e_icmp_le, e_acmp_eq, e_acmp_ne, e_ifnullN, e_ifnull, e_ifnonnull, e_ifnonnullN, e_getI, e_getR, e_putI, e_putZ, e_putR, e_putN, e_new, e_throw, e_newarray, e_anewarray, e_alen, e_iaload, e_iastore, e_aaload, e_aastore, e_aastoreN, e_cast, e_castN, e_gets, e_ldcM, e_ldcI, e_objInit, e_getC, e_mmax, e_mmin, e_mabs, e_copy, e_iret, e_zret, e_aret, e_aretN, e_ret, e_v1, e_v2, e_v3, e_v4, e_v6, e_s1, e_s3, e_s6, e_c102_0, e_c102_1, e_c102_2, e_c102_3, e_c102_4, e_c103_1, e_c104_5, e_c104_7, zld_0, zld_s, List.set_cons_succ, List.set_cons_zero, List.length_cons, List.length_nil, Nat.reduceAdd, Nat.reduceLT, Nat.reduceLeDiff, Nat.reduceEqDiff, Nat.zero_add, true_and, and_true, and_self, zcst_0, zcst_1, zcat_ref, zcat_int, zcat_null, zcat_rf, vrf_some, vrf_none, vrf_mid, ne_eq, reduceCtorEq, not_false_eq_true, not_true_eq_false, if_true, if_false, true_implies, false_implies, Option.some.injEq, Value.int.injEq, Value.ref.injEq, Value.long.injEq, implies_true, Nat.succ_ne_self, Nat.reduceMul, zI_sI, zI_sR, zR_sI, zR_sR, zK_sI, zK_sR, zret_some, zret_none, zret_thrown, List.cons_append, List.nil_append, Option.toList, or_self, or_false, false_or, true_or, or_true, nI_add, nI_ge hc (show 10 < 2 ^ 31 by decide), H1.kh, C51t H1 hN r10 r2 r4 p0, C51t H1 hN r10 r2 r4 p1, n10]
        refine C52 H1 hN (w11.row (zrw_n (by decide))) r10 r2 (fun μ2 H2 kp2 => ?_)
        rw [zhg_up hc wc p0 p1] at H2
        have i2 := ih μ2 H2 (kp.trans kp2)
        simp only [zret_none, e_null, e_iconst, e_bipush, e_sipush, e_iload_n, e_iload, e_aload_n, e_aload_nN, e_aload, e_aloadN, e_istore_n, e_istore, e_astore_n, e_astore_nN, e_astore, e_astoreN, e_iinc, e_iadd, e_isub, e_imul, e_iand, e_ior, e_ishl, e_ishr, e_idiv, e_irem, e_iushr, e_ineg, e_i2l, e_lcmp, e_dup, e_dup_x1, e_dup2, e_pop, e_goto, e_if_eq, e_if_ne, e_if_lt, e_if_ge, e_if_gt, e_if_le, e_icmp_eq, e_icmp_ne, e_icmp_lt, e_icmp_ge, e_icmp_gt, e_icmp_le, e_acmp_eq, e_acmp_ne, e_ifnullN, e_ifnull, e_ifnonnull, e_ifnonnullN, e_getI, e_getR, e_putI, e_putZ, e_putR, e_putN, e_new, e_throw, e_newarray, e_anewarray, e_alen, e_iaload, e_iastore, e_aaload, e_aastore, e_aastoreN, e_cast, e_castN, e_gets, e_ldcM, e_ldcI, e_objInit, e_getC, e_mmax, e_mmin, e_mabs, e_copy, e_iret, e_zret, e_aret, e_aretN, e_ret, e_v1, e_v2, e_v3, e_v4, e_v6, e_s1, e_s3, e_s6, e_c102_0, e_c102_1, e_c102_2, e_c102_3, e_c102_4, e_c103_1, e_c104_5, e_c104_7, zld_0, zld_s, List.set_cons_succ, List.set_cons_zero, List.length_cons, List.length_nil, Nat.reduceAdd, Nat.reduceLT, Nat.reduceLeDiff, Nat.reduceEqDiff, Nat.zero_add, true_and, and_true, and_self, zcst_0, zcst_1, zcat_ref, zcat_int, zcat_null, zcat_rf, vrf_some, vrf_none, vrf_mid, ne_eq, reduceCtorEq, not_false_eq_true, not_true_eq_false, if_true, if_false, true_implies, false_implies, Option.some.injEq, Value.int.injEq, Value.ref.injEq, Value.long.injEq, implies_true, Nat.succ_ne_self, Nat.reduceMul, zI_sI, zI_sR, zR_sI, zR_sR, zK_sI, zK_sR, zret_some, zret_none, zret_thrown, List.cons_append, List.nil_append, Option.toList, or_self, or_false, false_or, true_or, or_true, nI_add]
        exact i2
      · refine k50_2 ?_; simp only [zt50_2, zt50_3, zt50_5, zt50_8, zt50_9, zt50_10, zt50_11, zt50_14, zt50_17, zt50_18, zt50_19, zt50_20, zt50_23, zt50_26, zt50_27, zt50_28, zt50_31, zt50_34, e_null, e_iconst, e_bipush, e_sipush, e_iload_n, e_iload, e_aload_n, e_aload_nN, e_aload, e_aloadN, e_istore_n, e_istore, e_astore_n, e_astore_nN, e_astore, e_astoreN, e_iinc, e_iadd, e_isub, e_imul, e_iand, e_ior, e_ishl, e_ishr, e_idiv, e_irem, e_iushr, e_ineg, e_i2l, e_lcmp, e_dup, e_dup_x1, e_dup2, e_pop, e_goto, e_if_eq, e_if_ne, e_if_lt, e_if_ge, e_if_gt, e_if_le, e_icmp_eq, e_icmp_ne, e_icmp_lt, e_icmp_ge, e_icmp_gt, e_icmp_le, e_acmp_eq, e_acmp_ne, e_ifnullN, e_ifnull, e_ifnonnull, e_ifnonnullN, e_getI, e_getR, e_putI, e_putZ, e_putR, e_putN, e_new, e_throw, e_newarray, e_anewarray, e_alen, e_iaload, e_iastore, e_aaload, e_aastore, e_aastoreN, e_cast, e_castN, e_gets, e_ldcM, e_ldcI, e_objInit, e_getC, e_mmax, e_mmin, e_mabs, e_copy, e_iret, e_zret, e_aret, e_aretN, e_ret, e_v1, e_v2, e_v3, e_v4, e_v6, e_s1, e_s3, e_s6, e_c102_0, e_c102_1, e_c102_2, e_c102_3, e_c102_4, e_c103_1, e_c104_5, e_c104_7, zld_0, zld_s, List.set_cons_succ, List.set_cons_zero, List.length_cons, List.length_nil, Nat.reduceAdd, Nat.reduceLT, Nat.reduceLeDiff, Nat.reduceEqDiff, Nat.zero_add, true_and, and_true, and_self, zcst_0, zcst_1, zcat_ref, zcat_int, zcat_null, zcat_rf, vrf_some, vrf_none, vrf_mid, ne_eq, reduceCtorEq, not_false_eq_true, not_true_eq_false, if_true, if_false, true_implies, false_implies, Option.some.injEq, Value.int.injEq, Value.ref.injEq, Value.long.injEq, implies_true, Nat.succ_ne_self, Nat.reduceMul, zI_sI, zI_sR, zR_sI, zR_sR, zK_sI, zK_sR, zret_some, zret_none, zret_thrown, List.cons_append, List.nil_append, Option.toList, or_self, or_false, false_or, true_or, or_true, nI_add, nI_ge hc (show 10 < 2 ^ 31 by decide), H1.kh, C51t H1 hN r10 r2 r4 p0, C51f H1 hN r10 r2 r4 p1, n10, n0t]
        exact skip (fun q => p1 q.2)
    · refine k50_2 ?_; simp only [zt50_2, zt50_3, zt50_5, zt50_8, zt50_9, zt50_10, zt50_11, zt50_14, zt50_17, zt50_18, zt50_19, zt50_20, zt50_23, zt50_26, zt50_27, zt50_28, zt50_31, zt50_34, e_null, e_iconst, e_bipush, e_sipush, e_iload_n, e_iload, e_aload_n, e_aload_nN, e_aload, e_aloadN, e_istore_n, e_istore, e_astore_n, e_astore_nN, e_astore, e_astoreN, e_iinc, e_iadd, e_isub, e_imul, e_iand, e_ior, e_ishl, e_ishr, e_idiv, e_irem, e_iushr, e_ineg, e_i2l, e_lcmp, e_dup, e_dup_x1, e_dup2, e_pop, e_goto, e_if_eq, e_if_ne, e_if_lt, e_if_ge, e_if_gt, e_if_le, e_icmp_eq, e_icmp_ne, e_icmp_lt, e_icmp_ge, e_icmp_gt, e_icmp_le, e_acmp_eq, e_acmp_ne, e_ifnullN, e_ifnull, e_ifnonnull, e_ifnonnullN, e_getI, e_getR, e_putI, e_putZ, e_putR, e_putN, e_new, e_throw, e_newarray, e_anewarray, e_alen, e_iaload, e_iastore, e_aaload, e_aastore, e_aastoreN, e_cast, e_castN, e_gets, e_ldcM, e_ldcI, e_objInit, e_getC, e_mmax, e_mmin, e_mabs, e_copy, e_iret, e_zret, e_aret, e_aretN, e_ret, e_v1, e_v2, e_v3, e_v4, e_v6, e_s1, e_s3, e_s6, e_c102_0, e_c102_1, e_c102_2, e_c102_3, e_c102_4, e_c103_1, e_c104_5, e_c104_7, zld_0, zld_s, List.set_cons_succ, List.set_cons_zero, List.length_cons, List.length_nil, Nat.reduceAdd, Nat.reduceLT, Nat.reduceLeDiff, Nat.reduceEqDiff, Nat.zero_add, true_and, and_true, and_self, zcst_0, zcst_1, zcat_ref, zcat_int, zcat_null, zcat_rf, vrf_some, vrf_none, vrf_mid, ne_eq, reduceCtorEq, not_false_eq_true, not_true_eq_false, if_true, if_false, true_implies, false_implies, Option.some.injEq, Value.int.injEq, Value.ref.injEq, Value.long.injEq, implies_true, Nat.succ_ne_self, Nat.reduceMul, zI_sI, zI_sR, zR_sI, zR_sR, zK_sI, zK_sR, zret_some, zret_none, zret_thrown, List.cons_append, List.nil_append, Option.toList, or_self, or_false, false_or, true_or, or_true, nI_add, nI_ge hc (show 10 < 2 ^ 31 by decide), H1.kh, C51f H1 hN r10 r2 r4 p0, n10, n0t]
      exact skip (fun q => p0 q.1)
  · intro μ1 H1 kp
    have e : zrw σ 5 n (zhg σ n 10) = zhr σ n n := by
      funext f k
      show (if f = 5 ∧ k < n then zhg σ n 10 k else σ f k) = if f = 5 ∧ k < n then σ 5 k - zme σ k n else σ f k
      by_cases q : f = 5 ∧ k < n
      · obtain ⟨⟨d, hd, ed⟩, -⟩ := wc k q.2
        rw [if_pos q, if_pos q]
        unfold zhg
        rw [ed, if_pos (nI_lt hd (by omega))]
      · rw [if_neg q, if_neg q]
    rw [e] at H1
    have r : ∀ f, f ≠ 5 → zhr σ n n f = σ f := fun f q => zrw_n q
    refine k50_2 ?_; simp only [zt50_2, zt50_3, zt50_5, zt50_8, zt50_9, zt50_10, zt50_11, zt50_14, zt50_17, zt50_18, zt50_19, zt50_20, zt50_23, zt50_26, zt50_27, zt50_28, zt50_31, zt50_34, e_null, e_iconst, e_bipush, e_sipush, e_iload_n, e_iload, e_aload_n, e_aload_nN, e_aload, e_aloadN, e_istore_n, e_istore, e_astore_n, e_astore_nN, e_astore, e_astoreN, e_iinc, e_iadd, e_isub, e_imul, e_iand, e_ior, e_ishl, e_ishr, e_idiv, e_irem, e_iushr, e_ineg, e_i2l, e_lcmp, e_dup, e_dup_x1, e_dup2, e_pop, e_goto, e_if_eq, e_if_ne, e_if_lt, e_if_ge, e_if_gt, e_if_le, e_icmp_eq, e_icmp_ne, e_icmp_lt, e_icmp_ge, e_icmp_gt, e_icmp_le, e_acmp_eq, e_acmp_ne, e_ifnullN, e_ifnull, e_ifnonnull, e_ifnonnullN, e_getI, e_getR, e_putI, e_putZ, e_putR, e_putN, e_new, e_throw, e_newarray, e_anewarray, e_alen, e_iaload, e_iastore, e_aaload, e_aastore, e_aastoreN, e_cast, e_castN, e_gets, e_ldcM, e_ldcI, e_objInit, e_getC, e_mmax, e_mmin, e_mabs, e_copy, e_iret, e_zret, e_aret, e_aretN, e_ret, e_v1, e_v2, e_v3, e_v4, e_v6, e_s1, e_s3, e_s6, e_c102_0, e_c102_1, e_c102_2, e_c102_3, e_c102_4, e_c103_1, e_c104_5, e_c104_7, zld_0, zld_s, List.set_cons_succ, List.set_cons_zero, List.length_cons, List.length_nil, Nat.reduceAdd, Nat.reduceLT, Nat.reduceLeDiff, Nat.reduceEqDiff, Nat.zero_add, true_and, and_true, and_self, zcst_0, zcst_1, zcat_ref, zcat_int, zcat_null, zcat_rf, vrf_some, vrf_none, vrf_mid, ne_eq, reduceCtorEq, not_false_eq_true, not_true_eq_false, if_true, if_false, true_implies, false_implies, Option.some.injEq, Value.int.injEq, Value.ref.injEq, Value.long.injEq, implies_true, Nat.succ_ne_self, Nat.reduceMul, zI_sI, zI_sR, zR_sI, zR_sR, zK_sI, zK_sR, zret_some, zret_none, zret_thrown, List.cons_append, List.nil_append, Option.toList, or_self, or_false, false_or, true_or, or_true, nI_add, nI_le (Nat.le_refl 10) (show 10 < 2 ^ 31 by decide)]
    refine k50_37 ?_; simp only [zt50_37, zt50_38, zt50_41, e_null, e_iconst, e_bipush, e_sipush, e_iload_n, e_iload, e_aload_n, e_aload_nN, e_aload, e_aloadN, e_istore_n, e_istore, e_astore_n, e_astore_nN, e_astore, e_astoreN, e_iinc, e_iadd, e_isub, e_imul, e_iand, e_ior, e_ishl, e_ishr, e_idiv, e_irem, e_iushr, e_ineg, e_i2l, e_lcmp, e_dup, e_dup_x1, e_dup2, e_pop, e_goto, e_if_eq, e_if_ne, e_if_lt, e_if_ge, e_if_gt, e_if_le, e_icmp_eq, e_icmp_ne, e_icmp_lt, e_icmp_ge, e_icmp_gt, e_icmp_le, e_acmp_eq, e_acmp_ne, e_ifnullN, e_ifnull, e_ifnonnull, e_ifnonnullN, e_getI, e_getR, e_putI, e_putZ, e_putR, e_putN, e_new, e_throw, e_newarray, e_anewarray, e_alen, e_iaload, e_iastore, e_aaload, e_aastore, e_aastoreN, e_cast, e_castN, e_gets, e_ldcM, e_ldcI, e_objInit, e_getC, e_mmax, e_mmin, e_mabs, e_copy, e_iret, e_zret, e_aret, e_aretN, e_ret, e_v1, e_v2, e_v3, e_v4, e_v6, e_s1, e_s3, e_s6, e_c102_0, e_c102_1, e_c102_2, e_c102_3, e_c102_4, e_c103_1, e_c104_5, e_c104_7, zld_0, zld_s, List.set_cons_succ, List.set_cons_zero, List.length_cons, List.length_nil, Nat.reduceAdd, Nat.reduceLT, Nat.reduceLeDiff, Nat.reduceEqDiff, Nat.zero_add, true_and, and_true, and_self, zcst_0, zcst_1, zcat_ref, zcat_int, zcat_null, zcat_rf, vrf_some, vrf_none, vrf_mid, ne_eq, reduceCtorEq, not_false_eq_true, not_true_eq_false, if_true, if_false, true_implies, false_implies, Option.some.injEq, Value.int.injEq, Value.ref.injEq, Value.long.injEq, implies_true, Nat.succ_ne_self, Nat.reduceMul, zI_sI, zI_sR, zR_sI, zR_sR, zK_sI, zK_sR, zret_some, zret_none, zret_thrown, List.cons_append, List.nil_append, Option.toList, or_self, or_false, false_or, true_or, or_true, nI_add, H1.kh]
    refine C46 H1 hN ⟨fun k hk => by rw [r 7 (by decide)]; exact w7.1 k hk, fun j hj => by rw [r 7 (by decide), r 8 (by decide)]; exact w7.2 j hj⟩ (fun j hj => by rw [r 7 (by decide), r 9 (by decide)]; exact w9 j hj) (w11.row (r 11 (by decide))) (fun μ2 H2 kp2 => ?_)
    simp only [zret_none, e_null, e_iconst, e_bipush, e_sipush, e_iload_n, e_iload, e_aload_n, e_aload_nN, e_aload, e_aloadN, e_istore_n, e_istore, e_astore_n, e_astore_nN, e_astore, e_astoreN, e_iinc, e_iadd, e_isub, e_imul, e_iand, e_ior, e_ishl, e_ishr, e_idiv, e_irem, e_iushr, e_ineg, e_i2l, e_lcmp, e_dup, e_dup_x1, e_dup2, e_pop, e_goto, e_if_eq, e_if_ne, e_if_lt, e_if_ge, e_if_gt, e_if_le, e_icmp_eq, e_icmp_ne, e_icmp_lt, e_icmp_ge, e_icmp_gt, e_icmp_le, e_acmp_eq, e_acmp_ne, e_ifnullN, e_ifnull, e_ifnonnull, e_ifnonnullN, e_getI, e_getR, e_putI, e_putZ, e_putR, e_putN, e_new, e_throw, e_newarray, e_anewarray, e_alen, e_iaload, e_iastore, e_aaload, e_aastore, e_aastoreN, e_cast, e_castN, e_gets, e_ldcM, e_ldcI, e_objInit, e_getC, e_mmax, e_mmin, e_mabs, e_copy, e_iret, e_zret, e_aret, e_aretN, e_ret, e_v1, e_v2, e_v3, e_v4, e_v6, e_s1, e_s3, e_s6, e_c102_0, e_c102_1, e_c102_2, e_c102_3, e_c102_4, e_c103_1, e_c104_5, e_c104_7, zld_0, zld_s, List.set_cons_succ, List.set_cons_zero, List.length_cons, List.length_nil, Nat.reduceAdd, Nat.reduceLT, Nat.reduceLeDiff, Nat.reduceEqDiff, Nat.zero_add, true_and, and_true, and_self, zcst_0, zcst_1, zcat_ref, zcat_int, zcat_null, zcat_rf, vrf_some, vrf_none, vrf_mid, ne_eq, reduceCtorEq, not_false_eq_true, not_true_eq_false, if_true, if_false, true_implies, false_implies, Option.some.injEq, Value.int.injEq, Value.ref.injEq, Value.long.injEq, implies_true, Nat.succ_ne_self, Nat.reduceMul, zI_sI, zI_sR, zR_sI, zR_sR, zK_sI, zK_sR, zret_some, zret_none, zret_thrown, List.cons_append, List.nil_append, Option.toList, or_self, or_false, false_or, true_or, or_true, nI_add]
    exact hq μ2 H2 (kp.trans kp2)
end HITS

