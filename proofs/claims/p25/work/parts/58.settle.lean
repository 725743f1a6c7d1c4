/-! ===== an actor comes into a slot, and into the list ===== -/
section SETTLE
variable {de h mi n : Nat} {μ μ' : zM} {σ σ' : Nat → Nat → Int32} {A K A' K' : Nat → Nat} {B B' : Nat → Nat → Nat} {V N V' N' : Nat → Nat} {Q : zRes → zM → Prop}
/-- slot s is taken -/
def zs1 (σ : Nat → Nat → Int32) (n s : Nat) : Nat → Nat → Int32 := zup (zup (zup σ 12 s (σ 12 s + nI 1)) 11 s (nI (n + 1))) 1 n (nI 100 * (σ 12 s + nI 1) + nI s)
theorem zs1_n {s f : Nat} (h1 : f ≠ 1) (h11 : f ≠ 11) (h12 : f ≠ 12) : zs1 σ n s f = σ f := by unfold zs1; rw [zup_f h1, zup_f h11, zup_f h12]
theorem zs1_1 {s k : Nat} (hk : k ≠ n) : zs1 σ n s 1 k = σ 1 k := by unfold zs1; rw [zup_k hk, zup_f (by decide), zup_f (by decide)]
theorem zs1_1n {s : Nat} : zs1 σ n s 1 n = nI 100 * (σ 12 s + nI 1) + nI s := by unfold zs1; rw [zup_s]
theorem zs1_11 {s k : Nat} (hk : k ≠ s) : zs1 σ n s 11 k = σ 11 k := by unfold zs1; rw [zup_f (by decide), zup_k hk, zup_f (by decide)]
theorem zs1_11s {s : Nat} : zs1 σ n s 11 s = nI (n + 1) := by unfold zs1; rw [zup_f (by decide), zup_s]
theorem zs1_12 {s k : Nat} (hk : k ≠ s) : zs1 σ n s 12 k = σ 12 k := by unfold zs1; rw [zup_f (by decide), zup_f (by decide), zup_k hk]
theorem zs1_12s {s : Nat} : zs1 σ n s 12 s = σ 12 s + nI 1 := by unfold zs1; rw [zup_f (by decide), zup_f (by decide), zup_s]
theorem zcm_s1 {s : Nat} {c w sd l r : Int32} : zcm σ n s c w sd l r = zup (zup (zup (zup (zup (zup (zs1 σ n s) 2 n c) 3 n w) 4 n sd) 5 n l) 6 n r) 0 0 (nI (n + 1)) := rfl
/-- the hall behind the writes of a settling -/
theorem zHl'.settle {s : Nat} {x : Nat} (H : zHl' de h μ σ n A K B V N) (hN : n ≤ 40) (w11 : zW11 σ n) (hs : s < 12) (kx : zK μ x = (2, 0)) (gx : h + 6 < x) (nx : ∀ k, k < n → A k ≠ x) (ax : A n = x) (i9 : zI μ x 9 = 0) (bf : ¬ nI n < σ 14 0) : zHl' de h (zsI (zsI (zsR μ (h + 3) s (some x)) (h + 4) s (σ 12 s + nI 1)) x 3 (nI 100 * (σ 12 s + nI 1) + nI s)) (zs1 σ n s) n A K B V N := by
  have iA : ∀ a, a ≠ h + 4 → a ≠ x → zI (zsI (zsI (zsR μ (h + 3) s (some x)) (h + 4) s (σ 12 s + nI 1)) x 3 (nI 100 * (σ 12 s + nI 1) + nI s)) a = zI μ a := fun a q1 q2 => (zup_f q2).trans (zup_f q1)
  have rA : ∀ a, a ≠ h + 3 → zR (zsI (zsI (zsR μ (h + 3) s (some x)) (h + 4) s (σ 12 s + nI 1)) x 3 (nI 100 * (σ 12 s + nI 1) + nI s)) a = zR μ a := fun a q => zup_f q
  have k4 := H.k4
  refine H.re rfl rfl (fun a ha => iA a (fun e => ?_) (fun e => ?_)) rA (fun g hg => zs1_n (by omega) (by omega) (by omega)) ⟨fun s' hs' => ?_, ?_⟩ ⟨?_, ?_⟩ (fun k hk => ?_) (fun s' hs' h0 => ?_)
  · rw [e, k4] at ha; revert ha; simp
  · rw [e, kx] at ha; revert ha; simp
  · by_cases q : s' = s
    · subst q
      have e1 : zI (zsI (zsI (zsR μ (h + 3) s' (some x)) (h + 4) s' (σ 12 s' + nI 1)) x 3 (nI 100 * (σ 12 s' + nI 1) + nI s')) (h + 4) s' = σ 12 s' + nI 1 := by
        have : (h + 4) ≠ x := by omega
        rw [zI_sI, zup_f this, zI_sI, zup_s]
      have e2 : zR (zsI (zsI (zsR μ (h + 3) s' (some x)) (h + 4) s' (σ 12 s' + nI 1)) x 3 (nI 100 * (σ 12 s' + nI 1) + nI s')) (h + 3) s' = some x := by
        rw [zR_sI, zR_sI, zR_sR, zup_s]
      have e3 : zly (zs1 σ n s') s' = n := by unfold zly; rw [zs1_11s, nI_clamp (by omega)]; rfl
      rw [e1, e2, zs1_12s, zs1_11s, if_neg (nI_ne0 (by omega) (by omega)), e3, ax]
      exact ⟨rfl, rfl⟩
    · have e1 : zI (zsI (zsI (zsR μ (h + 3) s (some x)) (h + 4) s (σ 12 s + nI 1)) x 3 (nI 100 * (σ 12 s + nI 1) + nI s)) (h + 4) s' = zI μ (h + 4) s' := by
        have : (h + 4) ≠ x := by omega
        rw [zI_sI, zup_f this, zI_sI, zup_k q]; rfl
      have e2 : zR (zsI (zsI (zsR μ (h + 3) s (some x)) (h + 4) s (σ 12 s + nI 1)) x 3 (nI 100 * (σ 12 s + nI 1) + nI s)) (h + 3) s' = zR μ (h + 3) s' := by
        rw [zR_sI, zR_sI, zR_sR, zup_k q]
      have e3 : zly (zs1 σ n s) s' = zly σ s' := by unfold zly; rw [zs1_11 q]
      rw [e1, e2, zs1_12 q, zs1_11 q, e3]
      exact ⟨H.ag hs', H.sl hs'⟩
  · rw [iA (h + 2) (by omega) (by omega), zs1_n (by decide) (by decide) (by decide)]; exact H.nx
  · rw [iA h (by omega) (by omega), zs1_n (by decide) (by decide) (by decide)]; exact H.fr
  · rw [iA h (by omega) (by omega), zs1_n (by decide) (by decide) (by decide)]; exact H.er
  · have := H.gA hk
    rw [iA (A k) (by omega) (nx k hk), zs1_1 (by omega)]
    simp only [zs1_n (show 2 ≠ 1 by decide) (show 2 ≠ 11 by decide) (show 2 ≠ 12 by decide), zs1_n (show 3 ≠ 1 by decide) (show 3 ≠ 11 by decide) (show 3 ≠ 12 by decide), zs1_n (show 4 ≠ 1 by decide) (show 4 ≠ 11 by decide) (show 4 ≠ 12 by decide), zs1_n (show 5 ≠ 1 by decide) (show 5 ≠ 11 by decide) (show 5 ≠ 12 by decide), zs1_n (show 6 ≠ 1 by decide) (show 6 ≠ 11 by decide) (show 6 ≠ 12 by decide), zs1_n (show 10 ≠ 1 by decide) (show 10 ≠ 11 by decide) (show 10 ≠ 12 by decide)]
    exact H.co hk
  · have el : ∀ k, zlost (zs1 σ n s) k = zlost σ k := fun k => by unfold zlost; rw [zs1_n (by decide) (by decide) (by decide), zs1_n (by decide) (by decide) (by decide)]
    rw [el]
    by_cases q : s' = s
    · subst q
      have e3 : zly (zs1 σ n s') s' = n := by unfold zly; rw [zs1_11s, nI_clamp (by omega)]; rfl
      rw [e3, ax]
      have : zlost σ n = 0 := by unfold zlost; rw [if_neg (fun z => bf z.1)]
      rw [this, zI_sI, zup_k (by decide), zI_sI, zup_f (by omega)]; exact i9
    · have e3 : zly (zs1 σ n s) s' = zly σ s' := by unfold zly; rw [zs1_11 q]
      rw [zs1_11 q] at h0
      rw [e3]
      have hl : zly σ s' < n := by
        rcases w11 s' hs' with z | ⟨t, ht, z⟩
        · exact absurd z h0
        · rw [zlyt (by omega) z]; exact ht
      have := H.gA hl
      rw [iA _ (by omega) (nx _ hl)]
      exact H.c9 hs' h0
theorem zcs_W11 (w11 : zW11 σ n) : zW11 (zcs σ) n := by
  unfold zcs
  by_cases c : zlo σ 12 < 0
  · rw [if_pos c]
    exact (zsr_W11 (i := 12) w11).row (by unfold zsw; rw [zup_f (by decide)])
  · rw [if_neg c]; exact w11
/-- the slot's writes, from slot i on -/
theorem C7_14 {s x : Nat} (H : zHl' de h μ σ n A K B V N) (hN : n ≤ 40) (w11 : zW11 σ n) (hs : s < 12) (f0 : σ 11 s = 0) (f1 : ∀ s', s' < s → σ 11 s' ≠ 0) (kx : zK μ x = (2, 0)) (hq : Q (.inl none) (zsI (zsI (zsR μ (h + 3) s (some x)) (h + 4) s (σ 12 s + nI 1)) x 3 (nI 100 * (σ 12 s + nI 1) + nI s))) : zH de mi 7 14 [some (.ref (h + 2)), some (.ref x), some (.int (nI 0))] [] μ Q := by
  have hz := H.bs.2.2.2.2.2
  refine zfor (P := fun i => zH de mi 7 14 [some (.ref (h + 2)), some (.ref x), some (.int (nI i))] [] μ Q) s (fun i hi ih => ?_) ?_
  · have sl := H.sl (show i < 12 by omega)
    rw [if_neg (f1 i hi)] at sl
    refine k7_14 ?_; simp only [zt7_14, zt7_15, zt7_17, zt7_20, zt7_21, zt7_24, zt7_25, zt7_26, zt7_29, zt7_30, zt7_33, zt7_34, zt7_35, zt7_36, zt7_37, zt7_40, zt7_41, zt7_42, zt7_43, zt7_44, zt7_45, zt7_46, zt7_47, zt7_49, zt7_50, zt7_53, zt7_54, zt7_55, zt7_56, zt7_57, zt7_58, zt7_61, e_null, e_iconst, e_bipush, e_sipush, e_iload_n, e_iload, e_aload_n, e_aload_nN, e_aload, e_aloadN, e_istore_n, e_istore, e_astore_n, e_astore_nN, e_astore, e_astoreN, e_iinc, e_iadd, e_isub, e_imul, e_iand, e_ior, e_ishl, e_ishr, e_idiv, e_irem, e_iushr, e_ineg, e_i2l, e_lcmp, e_dup, e_dup_x1, e_dup2, e_pop, e_goto, e_if_eq, e_if_ne, e_if_lt, e_if_ge, e_if_gt, e_if_le, e_icmp_eq, e_icmp_ne, e_icmp_lt, e_icmp_ge, e_icmp_gt, e_icmp_le, e_acmp_eq, e_acmp_ne, e_ifnullN, e_ifnull, e_ifnonnull, e_ifnonnullN, e_getI, e_getR, e_putI, e_putZ, e_putR, e_putN, e_new, e_throw, e_newarray, e_anewarray, e_alen, e_iaload, e_iastore, e_aaload, e_aastore, e_aastoreN, e_cast, e_castN, e_gets, e_ldcM, e_ldcI, e_objInit, e_getC, e_mmax, e_mmin, e_mabs, e_copy, e_iret, e_zret, e_aret, e_aretN, e_ret, e_v1, e_v2, e_v3, e_v4, e_v6, e_s1, e_s3, e_s6, e_c102_0, e_c102_1, e_c102_2, e_c102_3, e_c102_4, e_c103_1, e_c104_5, e_c104_7, zld_0, zld_s, List.set_cons_succ, List.set_cons_zero, List.length_cons, List.length_nil, Nat.reduceAdd, Nat.reduceLT, Nat.reduceLeDiff, Nat.reduceEqDiff, Nat.zero_add, true_and, and_true, and_self, zcst_0, zcst_1, zcat_ref, zcat_int, zcat_null, zcat_rf, vrf_some, vrf_none, vrf_mid, ne_eq, reduceCtorEq, not_false_eq_true, not_true_eq_false, if_true, if_false, true_implies, false_implies, Option.some.injEq, Value.int.injEq, Value.ref.injEq, Value.long.injEq, implies_true, Nat.succ_ne_self, Nat.reduceMul, zI_sI, zI_sR, zR_sI, zR_sR, zK_sI, zK_sR, zret_some, zret_none, zret_thrown, List.cons_append, List.nil_append, Option.toList, or_self, or_false, false_or, true_or, or_true, nI_add, H.k2, H.r20, H.k3, nI_ge (show i < 12 by omega) (show 12 < 2 ^ 31 by decide), nI_pos (show i < 2 ^ 31 by omega), nI_clamp (show i < 2 ^ 31 by omega), (show i < 12 by omega), sl]
    refine k7_62 ?_; simp only [zt7_62, zt7_65, e_null, e_iconst, e_bipush, e_sipush, e_iload_n, e_iload, e_aload_n, e_aload_nN, e_aload, e_aloadN, e_istore_n, e_istore, e_astore_n, e_astore_nN, e_astore, e_astoreN, e_iinc, e_iadd, e_isub, e_imul, e_iand, e_ior, e_ishl, e_ishr, e_idiv, e_irem, e_iushr, e_ineg, e_i2l, e_lcmp, e_dup, e_dup_x1, e_dup2, e_pop, e_goto, e_if_eq, e_if_ne, e_if_lt, e_if_ge, e_if_gt, e_if_le, e_icmp_eq, e_icmp_ne, e_icmp_lt, e_icmp_ge, e_icmp_gt, e_icmp_le, e_acmp_eq, e_acmp_ne, e_ifnullN, e_ifnull, e_ifnonnull, e_ifnonnullN, e_getI, e_getR, e_putI, e_putZ, e_putR, e_putN, e_new, e_throw, e_newarray, e_anewarray, e_alen, e_iaload, e_iastore, e_aaload, e_aastore, e_aastoreN, e_cast, e_castN, e_gets, e_ldcM, e_ldcI, e_objInit, e_getC, e_mmax, e_mmin, e_mabs, e_copy, e_iret, e_zret, e_aret, e_aretN, e_ret, e_v1, e_v2, e_v3, e_v4, e_v6, e_s1, e_s3, e_s6, e_c102_0, e_c102_1, e_c102_2, e_c102_3, e_c102_4, e_c103_1, e_c104_5, e_c104_7, zld_0, zld_s, List.set_cons_succ, List.set_cons_zero, List.length_cons, List.length_nil, Nat.reduceAdd, Nat.reduceLT, Nat.reduceLeDiff, Nat.reduceEqDiff, Nat.zero_add, true_and, and_true, and_self, zcst_0, zcst_1, zcat_ref, zcat_int, zcat_null, zcat_rf, vrf_some, vrf_none, vrf_mid, ne_eq, reduceCtorEq, not_false_eq_true, not_true_eq_false, if_true, if_false, true_implies, false_implies, Option.some.injEq, Value.int.injEq, Value.ref.injEq, Value.long.injEq, implies_true, Nat.succ_ne_self, Nat.reduceMul, zI_sI, zI_sR, zR_sI, zR_sR, zK_sI, zK_sR, zret_some, zret_none, zret_thrown, List.cons_append, List.nil_append, Option.toList, or_self, or_false, false_or, true_or, or_true, nI_add]
    exact ih
  · have sl := H.sl hs
    rw [if_pos f0] at sl
    have e4 : (h + 4 = h + 3) = False := eq_false (by omega)
    have e5 : zI (zsI (zsR μ (h + 3) s (some x)) (h + 4) s (σ 12 s + nI 1)) (h + 4) s = σ 12 s + nI 1 := by rw [zI_sI, zup_s]
    refine k7_14 ?_; simp only [zt7_14, zt7_15, zt7_17, zt7_20, zt7_21, zt7_24, zt7_25, zt7_26, zt7_29, zt7_30, zt7_33, zt7_34, zt7_35, zt7_36, zt7_37, zt7_40, zt7_41, zt7_42, zt7_43, zt7_44, zt7_45, zt7_46, zt7_47, zt7_49, zt7_50, zt7_53, zt7_54, zt7_55, zt7_56, zt7_57, zt7_58, zt7_61, e_null, e_iconst, e_bipush, e_sipush, e_iload_n, e_iload, e_aload_n, e_aload_nN, e_aload, e_aloadN, e_istore_n, e_istore, e_astore_n, e_astore_nN, e_astore, e_astoreN, e_iinc, e_iadd, e_isub, e_imul, e_iand, e_ior, e_ishl, e_ishr, e_idiv, e_irem, e_iushr, e_ineg, e_i2l, e_lcmp, e_dup, e_dup_x1, e_dup2, e_pop, e_goto, e_if_eq, e_if_ne, e_if_lt, e_if_ge, e_if_gt, e_if_le, e_icmp_eq, e_icmp_ne, e_icmp_lt, e_icmp_ge, e_icmp_gt, e_icmp_le, e_acmp_eq, e_acmp_ne, e_ifnullN, e_ifnull, e_ifnonnull, e_ifnonnullN, e_getI, e_getR, e_putI, e_putZ, e_putR, e_putN, e_new, e_throw, e_newarray, e_anewarray, e_alen, e_iaload, e_iastore, e_aaload, e_aastore, e_aastoreN, e_cast, e_castN, e_gets, e_ldcM, e_ldcI, e_objInit, e_getC, e_mmax, e_mmin, e_mabs, e_copy, e_iret, e_zret, e_aret, e_aretN, e_ret, e_v1, e_v2, e_v3, e_v4, e_v6, e_s1, e_s3, e_s6, e_c102_0, e_c102_1, e_c102_2, e_c102_3, e_c102_4, e_c103_1, e_c104_5, e_c104_7, zld_0, zld_s, List.set_cons_succ, List.set_cons_zero, List.length_cons, List.length_nil, Nat.reduceAdd, Nat.reduceLT, Nat.reduceLeDiff, Nat.reduceEqDiff, Nat.zero_add, true_and, and_true, and_self, zcst_0, zcst_1, zcat_ref, zcat_int, zcat_null, zcat_rf, vrf_some, vrf_none, vrf_mid, ne_eq, reduceCtorEq, not_false_eq_true, not_true_eq_false, if_true, if_false, true_implies, false_implies, Option.some.injEq, Value.int.injEq, Value.ref.injEq, Value.long.injEq, implies_true, Nat.succ_ne_self, Nat.reduceMul, zI_sI, zI_sR, zR_sI, zR_sR, zK_sI, zK_sR, zret_some, zret_none, zret_thrown, List.cons_append, List.nil_append, Option.toList, or_self, or_false, false_or, true_or, or_true, nI_add, H.k2, H.r20, H.r21, H.k3, H.k4, nI_ge hs (show 12 < 2 ^ 31 by decide), nI_pos (show s < 2 ^ 31 by omega), nI_clamp (show s < 2 ^ 31 by omega), hs, sl, kx, H.ag hs, zup_s, zup_f (show h + 2 ≠ h + 3 by omega)]
    exact hq
end SETTLE

