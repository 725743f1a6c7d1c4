/-! ===== the class: slots ===== -/
section SLOTS
variable {de h mi n : Nat} {σ : Nat → Nat → Int32} {A K : Nat → Nat} {B : Nat → Nat → Nat} {V N : Nat → Nat} {Q : zRes → zM → Prop}
theorem zHl'.putS {s : Nat} {μ : zM} (H : zHl' de h μ σ n A K B V N) : zHl' de h (zsR μ (h + 3) s none) (zup σ 11 s 0) n A K B V N := by
  have yl : ∀ s', s' ≠ s → zly (zup σ 11 s 0) s' = zly σ s' := fun s' q => by unfold zly; rw [zup_k q]
  have sg : ∀ g, g ≠ 11 → zup σ 11 s 0 g = σ g := fun g hg => zup_f hg
  refine H.re rfl rfl (fun a ha => rfl) (fun a ha => zup_f ha) (fun g hg => zup_f (by omega)) ⟨fun s' hs => ?_, ?_⟩ ⟨?_, ?_⟩ (fun i hi => ?_) (fun s' hs h0 => ?_)
  · refine ⟨by rw [sg 12 (by decide)]; exact H.ag hs, ?_⟩
    by_cases e : s' = s
    · rw [e, zup_s, if_pos rfl]; exact zup_s
    · rw [zup_k e, yl s' e]
      exact (zup_k e).trans (H.sl hs)
  · rw [sg 13 (by decide)]; exact H.nx
  · rw [sg 16 (by decide)]; exact H.fr
  · rw [sg 26 (by decide)]; exact H.er
  · rw [sg 1 (by decide), sg 2 (by decide), sg 3 (by decide), sg 4 (by decide), sg 5 (by decide), sg 6 (by decide), sg 10 (by decide)]; exact H.co hi
  · have e : s' ≠ s := fun q => by rw [q, zup_s] at h0; exact h0 rfl
    rw [zup_k e] at h0
    rw [yl s' e]
    have : zlost (zup σ 11 s 0) (zly σ s') = zlost σ (zly σ s') := by unfold zlost; rw [sg 14 (by decide), sg 15 (by decide)]
    rw [this]; exact H.c9 hs h0
theorem zHl'.putN {x y : Int32} {μ : zM} (H : zHl' de h μ σ n A K B V N) (hN : n ≤ 40) (w11 : zW11 σ n) (hx : x = if y < 0 then nI 12 else y) : zHl' de h (zsI μ (h + 2) 2 x) (zup σ 13 0 y) n A K B V N := by
  have sg : ∀ g, g ≠ 13 → zup σ 13 0 y g = σ g := fun g hg => zup_f hg
  have yl : ∀ s', zly (zup σ 13 0 y) s' = zly σ s' := fun s' => by unfold zly; rw [sg 11 (by decide)]
  have ne : ∀ a, a ≠ h + 2 → zI (zsI μ (h + 2) 2 x) a = zI μ a := fun a q => zup_f q
  have nk : ∀ a t w, zK μ a = (t, w) → t ≠ 4 → a ≠ h + 2 := fun a t w q q2 z => by rw [z, H.k2] at q; exact q2 (congrArg Prod.fst q).symm
  refine H.re rfl rfl (fun a ha => ne a (fun z => by rw [z, H.k2] at ha; revert ha; simp)) (fun a ha => rfl) (fun g hg => zup_f (by omega)) ⟨fun s' hs => ?_, ?_⟩ ⟨?_, ?_⟩ (fun i hi => ?_) (fun s' hs h0 => ?_)
  · rw [ne _ (by omega), sg 12 (by decide), sg 11 (by decide), yl]
    exact ⟨H.ag hs, H.sl hs⟩
  · rw [zup_s]; exact zup_s.trans hx
  · rw [ne _ (by omega), sg 16 (by decide)]; exact H.fr
  · rw [ne _ (by omega), sg 26 (by decide)]; exact H.er
  · rw [ne _ (nk _ _ _ (H.kA hi) (by decide)), sg 1 (by decide), sg 2 (by decide), sg 3 (by decide), sg 4 (by decide), sg 5 (by decide), sg 6 (by decide), sg 10 (by decide)]; exact H.co hi
  · rw [sg 11 (by decide)] at h0
    rw [yl]
    have hl : zly σ s' < n := by
      rcases w11 s' hs with q | ⟨t, ht, q⟩
      · exact absurd q h0
      · unfold zly; rw [q, nI_clamp (by omega)]; omega
    have : zlost (zup σ 13 0 y) (zly σ s') = zlost σ (zly σ s') := by unfold zlost; rw [sg 14 (by decide), sg 15 (by decide)]
    rw [this, ne _ (nk _ _ _ (H.kA hl) (by decide))]; exact H.c9 hs h0
/-- freed by a sweep of all -/
def zfe (σ : Nat → Nat → Int32) (s : Nat) : Bool := decide (σ 11 s ≠ 0 ∧ zsv σ s = 0)
theorem zfe_sum {σ : Nat → Nat → Int32} : ∀ i, zcn (zfe σ) i + zcn (zfr σ) i = zcn (fun s => decide (zsv σ s = 0)) i
  | 0 => rfl
  | i + 1 => by
    have := zfe_sum (σ := σ) i
    simp only [zcn]
    by_cases c : σ 11 i = 0
    · have z : zsv σ i = 0 := by unfold zsv; rw [if_neg (fun q => q.1 c)]
      simp [zfe, zfr, c, z]; omega
    · by_cases d : zsv σ i = 0
      · simp [zfe, zfr, c, d]; omega
      · simp [zfe, zfr, c, d]; omega
theorem zfe_all {σ : Nat → Nat → Int32} : nI (zcn (zfe σ) 12) = nI (zcn (zfr (zsw σ)) 12) - nI (zcn (zfr σ) 12) := by
  have e : zcn (zfr (zsw σ)) 12 = zcn (fun s => decide (zsv σ s = 0)) 12 := zcn_eq (fun s hs => by
    unfold zfr zsw
    rw [zup_f (by decide)]
    have : zsr σ 12 11 s = zsv σ s := if_pos ⟨rfl, hs⟩
    rw [this])
  rw [e, ← zfe_sum, pk_sub (by omega), Nat.add_sub_cancel]
theorem zsr_skip {σ : Nat → Nat → Int32} {i : Nat} (h : zsv σ i = σ 11 i) : zsr σ (i + 1) = zsr σ i := by
  funext f k
  show (if f = 11 ∧ k < i + 1 then zsv σ k else σ f k) = if f = 11 ∧ k < i then zsv σ k else σ f k
  by_cases q : f = 11
  · by_cases e : k = i
    · rw [if_pos ⟨q, by omega⟩, if_neg (fun z => by omega), e, h, q]
    · by_cases e2 : k < i
      · rw [if_pos ⟨q, by omega⟩, if_pos ⟨q, e2⟩]
      · rw [if_neg (fun z => by omega), if_neg (fun z => e2 z.2)]
  · rw [if_neg (fun z => q z.1), if_neg (fun z => q z.1)]
theorem zsr_W11 {σ : Nat → Nat → Int32} {n i : Nat} (w : zW11 σ n) : zW11 (zsr σ i) n := by
  intro s hs
  by_cases c : s < i
  · have : zsr σ i 11 s = zsv σ s := if_pos ⟨rfl, c⟩
    rw [this]
    unfold zsv
    split
    · exact w s hs
    · exact Or.inl rfl
  · have : zsr σ i 11 s = σ 11 s := if_neg (fun q => c q.2)
    rw [this]; exact w s hs
theorem C8 {μ : zM} (H : zHl' de h μ σ n A K B V N) (hN : n ≤ 40) (w11 : zW11 σ n) (hq : ∀ μ', zHl' de h μ' (zsw σ) n A K B V N → zKp h 0 0 μ μ' → Q (.inl (some (.int (nI (zcn (zfe σ) 12))))) μ') : zCall de mi 8 [.ref (h + 2)] μ Q := by
  have H0 : zHl' de h μ (zsr σ 0) n A K B V N := by
    have : zsr σ 0 = σ := by funext f k; exact if_neg (fun q => Nat.not_lt_zero _ q.2)
    rw [this]; exact H
  show zH de mi 8 0 [some (.ref (h + 2)), none, none, none] [] _ _
  refine zx_sound (List.take 4 zt8_0) 0 _ _ _ (by decide +kernel) ?_; simp only [List.take_succ_cons, List.take_zero, zx_nil, zt8_0, zt8_1, zt8_2, zt8_3, e_null, e_iconst, e_bipush, e_sipush, e_iload_n, e_iload, e_aload_n, e_aload_nN, e_aload, e_aloadN, e_istore_n, e_istore, e_astore_n, e_astore_nN, e_astore, e_astoreN, e_iinc, e_iadd, e_isub, e_imul, e_iand, e_ior, e_ishl, e_ishr, e_idiv, e_irem, e_iushr, e_ineg, e_i2l, e_lcmp, e_dup, e_dup_x1, e_dup2, e_pop, e_goto, e_if_eq, e_if_ne, e_if_lt, e_if_ge, e_if_gt, e_if_le, e_icmp_eq, e_icmp_ne, e_icmp_lt, e_icmp_ge, e_icmp_gt, e_icmp_le, e_acmp_eq, e_acmp_ne, e_ifnullN, e_ifnull, e_ifnonnull, e_ifnonnullN, e_getI, e_getR, e_putI, e_putZ, e_putR, e_putN, e_new, e_throw, e_newarray, e_anewarray, e_alen, e_iaload, e_iastore, e_aaload, e_aastore, e_aastoreN, e_cast, e_castN, e_gets, e_ldcM, e_ldcI, e_objInit, e_getC, e_mmax, e_mmin, e_mabs, e_copy, e_iret, e_zret, e_aret, e_aretN, e_ret, e_v1, e_v2, e_v3, e_v4, e_v6, e_s1, e_s3, e_s6, e_c102_0, e_c102_1, e_c102_2, e_c102_3, e_c102_4, e_c103_1, e_c104_5, e_c104_7, zld_0, zld_s, List.set_cons_succ, List.set_cons_zero, List.length_cons, List.length_nil, Nat.reduceAdd, Nat.reduceLT, Nat.reduceLeDiff, Nat.reduceEqDiff, Nat.zero_add, true_and, and_true, and_self, zcst_0, zcst_1, zcat_ref, zcat_int, zcat_null, zcat_rf, vrf_some, vrf_none, vrf_mid, ne_eq, reduceCtorEq, not_false_eq_true, not_true_eq_false, if_true, if_false, true_implies, false_implies, Option.some.injEq, Value.int.injEq, Value.ref.injEq, Value.long.injEq, implies_true, Nat.succ_ne_self, Nat.reduceMul, zI_sI, zI_sR, zR_sI, zR_sR, zK_sI, zK_sR, zret_some, zret_none, zret_thrown, List.cons_append, List.nil_append, Option.toList, or_self, or_false, false_or, true_or, or_true, nI_add]
  refine zfor (P := fun i => ∀ μ1 v3, zHl' de h μ1 (zsr σ i) n A K B V N → zKp h 0 0 μ μ1 → zH de mi 8 4 [some (.ref (h + 2)), some (.int (nI (zcn (zfe σ) i))), some (.int (nI i)), v3] [] μ1 Q) 12 (fun i hi ih => ?_) ?_ μ none H0 zKp.refl
  · intro μ1 v3 H1 kp
    have sl := H1.sl hi
    rw [zsr_g] at sl
    have keep : zsv σ i = σ 11 i → ∀ v3, zH de mi 8 38 [some (.ref (h + 2)), some (.int (nI (zcn (zfe σ) i))), some (.int (nI i)), v3] [] μ1 Q := by
      intro z v3
      have i2 := ih μ1 v3 (by rw [zsr_skip z]; exact H1) kp
      have e : zcn (zfe σ) (i + 1) = zcn (zfe σ) i := by
        have : zfe σ i = false := decide_eq_false (fun q => q.1 (z ▸ q.2))
        simp only [zcn, this, Bool.false_eq_true, if_false, Nat.add_zero]
      rw [e] at i2
      refine k8_38 ?_; simp only [zt8_38, zt8_41, e_null, e_iconst, e_bipush, e_sipush, e_iload_n, e_iload, e_aload_n, e_aload_nN, e_aload, e_aloadN, e_istore_n, e_istore, e_astore_n, e_astore_nN, e_astore, e_astoreN, e_iinc, e_iadd, e_isub, e_imul, e_iand, e_ior, e_ishl, e_ishr, e_idiv, e_irem, e_iushr, e_ineg, e_i2l, e_lcmp, e_dup, e_dup_x1, e_dup2, e_pop, e_goto, e_if_eq, e_if_ne, e_if_lt, e_if_ge, e_if_gt, e_if_le, e_icmp_eq, e_icmp_ne, e_icmp_lt, e_icmp_ge, e_icmp_gt, e_icmp_le, e_acmp_eq, e_acmp_ne, e_ifnullN, e_ifnull, e_ifnonnull, e_ifnonnullN, e_getI, e_getR, e_putI, e_putZ, e_putR, e_putN, e_new, e_throw, e_newarray, e_anewarray, e_alen, e_iaload, e_iastore, e_aaload, e_aastore, e_aastoreN, e_cast, e_castN, e_gets, e_ldcM, e_ldcI, e_objInit, e_getC, e_mmax, e_mmin, e_mabs, e_copy, e_iret, e_zret, e_aret, e_aretN, e_ret, e_v1, e_v2, e_v3, e_v4, e_v6, e_s1, e_s3, e_s6, e_c102_0, e_c102_1, e_c102_2, e_c102_3, e_c102_4, e_c103_1, e_c104_5, e_c104_7, zld_0, zld_s, List.set_cons_succ, List.set_cons_zero, List.length_cons, List.length_nil, Nat.reduceAdd, Nat.reduceLT, Nat.reduceLeDiff, Nat.reduceEqDiff, Nat.zero_add, true_and, and_true, and_self, zcst_0, zcst_1, zcat_ref, zcat_int, zcat_null, zcat_rf, vrf_some, vrf_none, vrf_mid, ne_eq, reduceCtorEq, not_false_eq_true, not_true_eq_false, if_true, if_false, true_implies, false_implies, Option.some.injEq, Value.int.injEq, Value.ref.injEq, Value.long.injEq, implies_true, Nat.succ_ne_self, Nat.reduceMul, zI_sI, zI_sR, zR_sI, zR_sR, zK_sI, zK_sR, zret_some, zret_none, zret_thrown, List.cons_append, List.nil_append, Option.toList, or_self, or_false, false_or, true_or, or_true, nI_add]
      exact i2
    by_cases c : σ 11 i = 0
    · rw [if_pos c] at sl
      refine k8_4 ?_; simp only [zt8_4, zt8_5, zt8_7, zt8_10, zt8_11, zt8_14, zt8_15, zt8_16, zt8_17, zt8_18, zt8_21, zt8_22, zt8_25, zt8_28, zt8_29, zt8_32, zt8_33, zt8_34, zt8_35, zt8_38, zt8_41, e_null, e_iconst, e_bipush, e_sipush, e_iload_n, e_iload, e_aload_n, e_aload_nN, e_aload, e_aloadN, e_istore_n, e_istore, e_astore_n, e_astore_nN, e_astore, e_astoreN, e_iinc, e_iadd, e_isub, e_imul, e_iand, e_ior, e_ishl, e_ishr, e_idiv, e_irem, e_iushr, e_ineg, e_i2l, e_lcmp, e_dup, e_dup_x1, e_dup2, e_pop, e_goto, e_if_eq, e_if_ne, e_if_lt, e_if_ge, e_if_gt, e_if_le, e_icmp_eq, e_icmp_ne, e_icmp_lt, e_icmp_ge, e_icmp_gt, e_icmp_le, e_acmp_eq, e_acmp_ne, e_ifnullN, e_ifnull, e_ifnonnull, e_ifnonnullN, e_getI, e_getR, e_putI, e_putZ, e_putR, e_putN, e_new, e_throw, e_newarray, e_anewarray, e_alen, e_iaload, e_iastore, e_aaload, e_aastore, e_aastoreN, e_cast, e_castN, e_gets, e_ldcM, e_ldcI, e_objInit, e_getC, e_mmax, e_mmin, e_mabs, e_copy, e_iret, e_zret, e_aret, e_aretN, e_ret, e_v1, e_v2, e_v3, e_v4, e_v6, e_s1, e_s3, e_s6, e_c102_0, e_c102_1, e_c102_2, e_c102_3, e_c102_4, e_c103_1, e_c104_5, e_c104_7, zld_0, zld_s, List.set_cons_succ, List.set_cons_zero, List.length_cons, List.length_nil, Nat.reduceAdd, Nat.reduceLT, Nat.reduceLeDiff, Nat.reduceEqDiff, Nat.zero_add, true_and, and_true, and_self, zcst_0, zcst_1, zcat_ref, zcat_int, zcat_null, zcat_rf, vrf_some, vrf_none, vrf_mid, ne_eq, reduceCtorEq, not_false_eq_true, not_true_eq_false, if_true, if_false, true_implies, false_implies, Option.some.injEq, Value.int.injEq, Value.ref.injEq, Value.long.injEq, implies_true, Nat.succ_ne_self, Nat.reduceMul, zI_sI, zI_sR, zR_sI, zR_sR, zK_sI, zK_sR, zret_some, zret_none, zret_thrown, List.cons_append, List.nil_append, Option.toList, or_self, or_false, false_or, true_or, or_true, nI_add, H1.k2, H1.r20, H1.k3, nI_ge hi (show 12 < 2 ^ 31 by decide), nI_pos (show i < 2 ^ 31 by omega), nI_clamp (show i < 2 ^ 31 by omega), hi, sl]
      rw [e_aload_nN rfl, e_ifnullN (by decide)]
      exact keep (by unfold zsv; rw [if_neg (fun q => q.1 c), c]) _
    · rw [if_neg c] at sl
      rcases w11 i hi with q | ⟨t, ht, et⟩
      · exact absurd q c
      have ey : zly (zsr σ i) i = t := by unfold zly; rw [zsr_g, et, nI_clamp (by omega)]; rfl
      have ev : zsv σ i = if σ 10 t ≠ 0 then σ 11 i else 0 := by
        unfold zsv
        rw [et, nI_clamp (by omega), Nat.add_sub_cancel]
        by_cases c10 : σ 10 t ≠ 0
        · rw [if_pos c10, if_pos ⟨by rw [← et]; exact c, c10⟩]
        · rw [if_neg c10, if_neg (fun q => c10 q.2)]
      rw [ey] at sl
      have c8 := H1.c8 ht
      rw [zsr_n (by decide)] at c8
      by_cases hh : σ 10 t = 0
      · rw [if_neg (fun q => q hh)] at ev
        have H2 := H1.putS (s := i)
        rw [zsr_up ev.symm] at H2
        have i2 := ih _ (some (.ref (A t))) H2 (kp.trans (zKp.putR (zpr_h (show 3 ≤ 6 by decide))))
        have e : zcn (zfe σ) (i + 1) = zcn (zfe σ) i + 1 := by
          have : zfe σ i = true := decide_eq_true ⟨c, ev⟩
          simp only [zcn, this, if_true]
        rw [e] at i2
        refine k8_4 ?_; simp only [zt8_4, zt8_5, zt8_7, zt8_10, zt8_11, zt8_14, zt8_15, zt8_16, zt8_17, zt8_18, zt8_21, zt8_22, zt8_25, zt8_28, zt8_29, zt8_32, zt8_33, zt8_34, zt8_35, zt8_38, zt8_41, e_null, e_iconst, e_bipush, e_sipush, e_iload_n, e_iload, e_aload_n, e_aload_nN, e_aload, e_aloadN, e_istore_n, e_istore, e_astore_n, e_astore_nN, e_astore, e_astoreN, e_iinc, e_iadd, e_isub, e_imul, e_iand, e_ior, e_ishl, e_ishr, e_idiv, e_irem, e_iushr, e_ineg, e_i2l, e_lcmp, e_dup, e_dup_x1, e_dup2, e_pop, e_goto, e_if_eq, e_if_ne, e_if_lt, e_if_ge, e_if_gt, e_if_le, e_icmp_eq, e_icmp_ne, e_icmp_lt, e_icmp_ge, e_icmp_gt, e_icmp_le, e_acmp_eq, e_acmp_ne, e_ifnullN, e_ifnull, e_ifnonnull, e_ifnonnullN, e_getI, e_getR, e_putI, e_putZ, e_putR, e_putN, e_new, e_throw, e_newarray, e_anewarray, e_alen, e_iaload, e_iastore, e_aaload, e_aastore, e_aastoreN, e_cast, e_castN, e_gets, e_ldcM, e_ldcI, e_objInit, e_getC, e_mmax, e_mmin, e_mabs, e_copy, e_iret, e_zret, e_aret, e_aretN, e_ret, e_v1, e_v2, e_v3, e_v4, e_v6, e_s1, e_s3, e_s6, e_c102_0, e_c102_1, e_c102_2, e_c102_3, e_c102_4, e_c103_1, e_c104_5, e_c104_7, zld_0, zld_s, List.set_cons_succ, List.set_cons_zero, List.length_cons, List.length_nil, Nat.reduceAdd, Nat.reduceLT, Nat.reduceLeDiff, Nat.reduceEqDiff, Nat.zero_add, true_and, and_true, and_self, zcst_0, zcst_1, zcat_ref, zcat_int, zcat_null, zcat_rf, vrf_some, vrf_none, vrf_mid, ne_eq, reduceCtorEq, not_false_eq_true, not_true_eq_false, if_true, if_false, true_implies, false_implies, Option.some.injEq, Value.int.injEq, Value.ref.injEq, Value.long.injEq, implies_true, Nat.succ_ne_self, Nat.reduceMul, zI_sI, zI_sR, zR_sI, zR_sR, zK_sI, zK_sR, zret_some, zret_none, zret_thrown, List.cons_append, List.nil_append, Option.toList, or_self, or_false, false_or, true_or, or_true, nI_add, H1.k2, H1.r20, H1.k3, nI_ge hi (show 12 < 2 ^ 31 by decide), nI_pos (show i < 2 ^ 31 by omega), nI_clamp (show i < 2 ^ 31 by omega), hi, sl, H1.kA ht, c8, hh]
        exact i2
      · rw [if_pos hh] at ev
        refine k8_4 ?_; simp only [zt8_4, zt8_5, zt8_7, zt8_10, zt8_11, zt8_14, zt8_15, zt8_16, zt8_17, zt8_18, zt8_21, zt8_22, zt8_25, zt8_28, zt8_29, zt8_32, zt8_33, zt8_34, zt8_35, zt8_38, zt8_41, e_null, e_iconst, e_bipush, e_sipush, e_iload_n, e_iload, e_aload_n, e_aload_nN, e_aload, e_aloadN, e_istore_n, e_istore, e_astore_n, e_astore_nN, e_astore, e_astoreN, e_iinc, e_iadd, e_isub, e_imul, e_iand, e_ior, e_ishl, e_ishr, e_idiv, e_irem, e_iushr, e_ineg, e_i2l, e_lcmp, e_dup, e_dup_x1, e_dup2, e_pop, e_goto, e_if_eq, e_if_ne, e_if_lt, e_if_ge, e_if_gt, e_if_le, e_icmp_eq, e_icmp_ne, e_icmp_lt, e_icmp_ge, e_icmp_gt, e_icmp_le, e_acmp_eq, e_acmp_ne, e_ifnullN, e_ifnull, e_ifnonnull, e_ifnonnullN, e_getI, e_getR, e_putI, e_putZ, e_putR, e_putN, e_new, e_throw, e_newarray, e_anewarray, e_alen, e_iaload, e_iastore, e_aaload, e_aastore, e_aastoreN, e_cast, e_castN, e_gets, e_ldcM, e_ldcI, e_objInit, e_getC, e_mmax, e_mmin, e_mabs, e_copy, e_iret, e_zret, e_aret, e_aretN, e_ret, e_v1, e_v2, e_v3, e_v4, e_v6, e_s1, e_s3, e_s6, e_c102_0, e_c102_1, e_c102_2, e_c102_3, e_c102_4, e_c103_1, e_c104_5, e_c104_7, zld_0, zld_s, List.set_cons_succ, List.set_cons_zero, List.length_cons, List.length_nil, Nat.reduceAdd, Nat.reduceLT, Nat.reduceLeDiff, Nat.reduceEqDiff, Nat.zero_add, true_and, and_true, and_self, zcst_0, zcst_1, zcat_ref, zcat_int, zcat_null, zcat_rf, vrf_some, vrf_none, vrf_mid, ne_eq, reduceCtorEq, not_false_eq_true, not_true_eq_false, if_true, if_false, true_implies, false_implies, Option.some.injEq, Value.int.injEq, Value.ref.injEq, Value.long.injEq, implies_true, Nat.succ_ne_self, Nat.reduceMul, zI_sI, zI_sR, zR_sI, zR_sR, zK_sI, zK_sR, zret_some, zret_none, zret_thrown, List.cons_append, List.nil_append, Option.toList, or_self, or_false, false_or, true_or, or_true, nI_add, H1.k2, H1.r20, H1.k3, nI_ge hi (show 12 < 2 ^ 31 by decide), nI_pos (show i < 2 ^ 31 by omega), nI_clamp (show i < 2 ^ 31 by omega), hi, sl, H1.kA ht, c8, hh]
        exact keep ev _
  · intro μ1 v3 H1 kp
    have H2 := H1.putN (x := nI 12) (y := -nI 1) hN (zsr_W11 w11) (by rw [if_pos n1neg])
    refine k8_4 ?_; simp only [zt8_4, zt8_5, zt8_7, zt8_10, zt8_11, zt8_14, zt8_15, zt8_16, zt8_17, zt8_18, zt8_21, zt8_22, zt8_25, zt8_28, zt8_29, zt8_32, zt8_33, zt8_34, zt8_35, zt8_38, zt8_41, e_null, e_iconst, e_bipush, e_sipush, e_iload_n, e_iload, e_aload_n, e_aload_nN, e_aload, e_aloadN, e_istore_n, e_istore, e_astore_n, e_astore_nN, e_astore, e_astoreN, e_iinc, e_iadd, e_isub, e_imul, e_iand, e_ior, e_ishl, e_ishr, e_idiv, e_irem, e_iushr, e_ineg, e_i2l, e_lcmp, e_dup, e_dup_x1, e_dup2, e_pop, e_goto, e_if_eq, e_if_ne, e_if_lt, e_if_ge, e_if_gt, e_if_le, e_icmp_eq, e_icmp_ne, e_icmp_lt, e_icmp_ge, e_icmp_gt, e_icmp_le, e_acmp_eq, e_acmp_ne, e_ifnullN, e_ifnull, e_ifnonnull, e_ifnonnullN, e_getI, e_getR, e_putI, e_putZ, e_putR, e_putN, e_new, e_throw, e_newarray, e_anewarray, e_alen, e_iaload, e_iastore, e_aaload, e_aastore, e_aastoreN, e_cast, e_castN, e_gets, e_ldcM, e_ldcI, e_objInit, e_getC, e_mmax, e_mmin, e_mabs, e_copy, e_iret, e_zret, e_aret, e_aretN, e_ret, e_v1, e_v2, e_v3, e_v4, e_v6, e_s1, e_s3, e_s6, e_c102_0, e_c102_1, e_c102_2, e_c102_3, e_c102_4, e_c103_1, e_c104_5, e_c104_7, zld_0, zld_s, List.set_cons_succ, List.set_cons_zero, List.length_cons, List.length_nil, Nat.reduceAdd, Nat.reduceLT, Nat.reduceLeDiff, Nat.reduceEqDiff, Nat.zero_add, true_and, and_true, and_self, zcst_0, zcst_1, zcat_ref, zcat_int, zcat_null, zcat_rf, vrf_some, vrf_none, vrf_mid, ne_eq, reduceCtorEq, not_false_eq_true, not_true_eq_false, if_true, if_false, true_implies, false_implies, Option.some.injEq, Value.int.injEq, Value.ref.injEq, Value.long.injEq, implies_true, Nat.succ_ne_self, Nat.reduceMul, zI_sI, zI_sR, zR_sI, zR_sR, zK_sI, zK_sR, zret_some, zret_none, zret_thrown, List.cons_append, List.nil_append, Option.toList, or_self, or_false, false_or, true_or, or_true, nI_add, nI_le (Nat.le_refl 12) (show 12 < 2 ^ 31 by decide)]
    refine k8_44 ?_; simp only [zt8_44, zt8_45, zt8_47, zt8_50, zt8_51, e_null, e_iconst, e_bipush, e_sipush, e_iload_n, e_iload, e_aload_n, e_aload_nN, e_aload, e_aloadN, e_istore_n, e_istore, e_astore_n, e_astore_nN, e_astore, e_astoreN, e_iinc, e_iadd, e_isub, e_imul, e_iand, e_ior, e_ishl, e_ishr, e_idiv, e_irem, e_iushr, e_ineg, e_i2l, e_lcmp, e_dup, e_dup_x1, e_dup2, e_pop, e_goto, e_if_eq, e_if_ne, e_if_lt, e_if_ge, e_if_gt, e_if_le, e_icmp_eq, e_icmp_ne, e_icmp_lt, e_icmp_ge, e_icmp_gt, e_icmp_le, e_acmp_eq, e_acmp_ne, e_ifnullN, e_ifnull, e_ifnonnull, e_ifnonnullN, e_getI, e_getR, e_putI, e_putZ, e_putR, e_putN, e_new, e_throw, e_newarray, e_anewarray, e_alen, e_iaload, e_iastore, e_aaload, e_aastore, e_aastoreN, e_cast, e_castN, e_gets, e_ldcM, e_ldcI, e_objInit, e_getC, e_mmax, e_mmin, e_mabs, e_copy, e_iret, e_zret, e_aret, e_aretN, e_ret, e_v1, e_v2, e_v3, e_v4, e_v6, e_s1, e_s3, e_s6, e_c102_0, e_c102_1, e_c102_2, e_c102_3, e_c102_4, e_c103_1, e_c104_5, e_c104_7, zld_0, zld_s, List.set_cons_succ, List.set_cons_zero, List.length_cons, List.length_nil, Nat.reduceAdd, Nat.reduceLT, Nat.reduceLeDiff, Nat.reduceEqDiff, Nat.zero_add, true_and, and_true, and_self, zcst_0, zcst_1, zcat_ref, zcat_int, zcat_null, zcat_rf, vrf_some, vrf_none, vrf_mid, ne_eq, reduceCtorEq, not_false_eq_true, not_true_eq_false, if_true, if_false, true_implies, false_implies, Option.some.injEq, Value.int.injEq, Value.ref.injEq, Value.long.injEq, implies_true, Nat.succ_ne_self, Nat.reduceMul, zI_sI, zI_sR, zR_sI, zR_sR, zK_sI, zK_sR, zret_some, zret_none, zret_thrown, List.cons_append, List.nil_append, Option.toList, or_self, or_false, false_or, true_or, or_true, nI_add, H1.k2]
    exact hq _ H2 (kp.trans (zKp.putI (zpr_h (show 2 ≤ 6 by decide))))
end SLOTS

