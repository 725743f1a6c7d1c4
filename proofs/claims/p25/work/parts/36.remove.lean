/-! ===== remove ===== -/
def zrm (μ : zM) (l e n : Nat) (v : Int32) (g : Nat → Option Nat) : zM := zsR (zsI (zsW (zsI μ l 0 v) e g) l 2 (nI n)) e n none
def zcut (f : Nat → Nat) (p : Nat) : Nat → Nat := fun k => if k < p then f k else f (k + 1)
theorem zrm_ok {de h l e c t n p : Nat} {f : Nat → Nat} {v : Int32} {g : Nat → Option Nat} {μ : zM} (b : zBs de h μ) (hl : zLv de h μ l t (n + 1) f) (he : zR μ l 1 = some e) (hK : zK μ e = (12, c)) (h9 : h + 6 < e) (hnc : n < c) (h10 : 10 ≤ c) (hc : c < 1000) (hp : ¬ zpr h l) (hg : ∀ k, k < n → g k = some (zcut f p k)) : zBs de h (zrm μ l e n v g) ∧ zLv de h (zrm μ l e n v g) l t n (zcut f p) ∧ zAd de h l μ (zrm μ l e n v g) := by
  obtain ⟨l1, l2, ⟨e', l3, l4, l5⟩, l6, l7⟩ := hl
  have hI : ∀ a j, zI (zrm μ l e n v g) a j = if a = l ∧ j = 2 then nI n else if a = l ∧ j = 0 then v else zI μ a j := fun a j => rfl
  have hR : ∀ a j, zR (zrm μ l e n v g) a j = if a = e ∧ j = n then none else if a = e then g j else zR μ a j := fun a j => rfl
  have hK' : zK (zrm μ l e n v g) = zK μ := rfl
  have hle : l ≠ e := fun q => by rw [← q, l1] at hK; exact absurd (congrArg Prod.fst hK) (by simp)
  have hede : e ≠ de := by have := b.2.1; omega
  have hR1 : ∀ a, (zK μ a).1 ≠ 12 → zR (zrm μ l e n v g) a = zR μ a := fun a ha => by
    have : a ≠ e := fun q => ha (by rw [q, hK])
    funext j
    rw [hR, if_neg (fun q => this q.1), if_neg this]
  refine ⟨⟨b.1, b.2.1, b.2.2.1, ?_, ?_, b.2.2.2.2.2⟩, ⟨l1, ?_, ⟨e, ?_, Or.inr ⟨h9, c, hK, by omega, h10, hc⟩, fun k hk => ?_⟩, fun k hk => ?_, l7⟩, Nat.le_refl _, fun a _ => rfl, fun a ha => ?_, fun a _ ha h12 => ?_, fun a _ => rfl, fun l' t' n' f' hne hl' => ?_, fun a ha => ?_, Nat.le_succ _, Nat.le_add_right _ _⟩
  · intro l1' l2' e1 q1 q2 q3 q4
    rw [hR1 l1' (by rw [hK'] at q1; omega)] at q3
    rw [hR1 l2' (by rw [hK'] at q2; omega)] at q4
    exact b.2.2.2.1 l1' l2' e1 q1 q2 q3 q4
  · intro l1' e1 q1 q3
    rw [hR1 l1' (by rw [hK'] at q1; omega)] at q3
    exact b.2.2.2.2.1 l1' e1 q1 q3
  · rw [hI, if_pos ⟨rfl, rfl⟩]
  · rw [hR1 l (by rw [l1]; decide)]; exact he
  · rw [hR, if_neg (fun q => by omega), if_pos rfl]; exact hg k hk
  · show zK μ (if k < p then f k else f (k + 1)) = _
    by_cases q : k < p
    · rw [if_pos q]; exact l6 k (by omega)
    · rw [if_neg q]; exact l6 (k + 1) (by omega)
  · left; rw [hK', b.1 a ha]
  · exact ⟨by funext j; rw [hI, if_neg (fun q => ha q.1), if_neg (fun q => ha q.1)], hR1 a h12⟩
  · obtain ⟨m1, m2, ⟨e2, m3, m4, m5⟩, m6, m7⟩ := hl'
    have e2e : e2 ≠ e := by
      intro q
      have := b.2.2.2.1 l' l e (by rw [m1]) (by rw [l1]) (by rw [m3, q]) he
      exact this.elim hne hede
    refine ⟨m1, ?_, ⟨e2, ?_, m4, fun k hk => ?_⟩, m6, m7⟩
    · rw [hI, if_neg (fun q => hne q.1), if_neg (fun q => hne q.1)]; exact m2
    · rw [hR1 l' (by rw [m1]; decide)]; exact m3
    · rw [hR, if_neg (fun q => e2e q.1), if_neg e2e]; exact m5 k hk
  · have ha' : a ≠ l := fun q => hp (q ▸ ha)
    have ha2 : a ≠ e := fun q => by rw [q] at ha; unfold zpr at ha; omega
    refine ⟨by funext j; rw [hI, if_neg (fun q => ha' q.1), if_neg (fun q => ha' q.1)], by funext j; rw [hR, if_neg (fun q => ha2 q.1), if_neg ha2]⟩
theorem L105 {de h mi l t n p : Nat} {f : Nat → Nat} {μ : zM} {Q : zRes → zM → Prop} (b : zBs de h μ) (hl : zLv de h μ l t (n + 1) f) (hp : ¬ zpr h l) (hpn : p ≤ n) (hn : n ≤ 45) (hq : ∀ μ', zBs de h μ' → zLv de h μ' l t n (zcut f p) → zAd de h l μ μ' → Q (.inl (some (.ref (f p)))) μ') : zCall de mi 65 [.ref l, .int (nI p)] μ Q := by
  have hl' := hl
  obtain ⟨l1, l2, ⟨e, l3, l4, l5⟩, l6, l7, l8⟩ := hl'
  rcases l4 with ⟨-, q0⟩ | ⟨q1, c, q2, q3, q4, q5⟩
  · omega
  obtain ⟨v, hv⟩ : ∃ v, v = zI μ l 0 + nI 1 := ⟨_, rfl⟩
  have k2 : zI (zsI μ l 0 v) l 2 = nI (n + 1) := (zup_k (by decide)).trans l2
  have hm : nI (n + 1) - nI 1 = nI n := by rw [pk_sub (by omega)]; rfl
  have pp : ¬ nI p < 0 := nI_pos (by omega)
  have pc : (nI p).toNatClampNeg = p := nI_clamp (by omega)
  have np : ¬ nI n < 0 := nI_pos (by omega)
  have nc : (nI n).toNatClampNeg = n := nI_clamp (by omega)
  have g : ∃ gg, (∀ k, k < n → gg k = some (zcut f p k)) ∧ ∀ Q, zCall de mi 66 [.ref l, .ref e, .int (nI p)] μ Q = Q (.inl none) (zrm μ l e n v gg) := by
    by_cases hlt : p < n
    · refine ⟨va_cpy (zR μ e) (zR μ e) (p + 1) p (n - p), fun k hk => ?_, fun Q => zCall.one ?_ Q⟩
      · show (if p ≤ k ∧ k < p + (n - p) then zR μ e (p + 1 + (k - p)) else zR μ e k) = some (if k < p then f k else f (k + 1))
        by_cases q : k < p
        · rw [if_neg (fun q9 => by omega), if_pos q]; exact l5 k (by omega)
        · rw [if_pos ⟨by omega, by omega⟩, if_neg q, show p + 1 + (k - p) = k + 1 by omega]; exact l5 (k + 1) (by omega)
      · have e1 : nI n - nI p = nI (n - p) := pk_sub (by omega)
        have p1 : ¬ nI (p + 1) < 0 := nI_pos (by omega)
        have p2 : (nI (p + 1)).toNatClampNeg = p + 1 := nI_clamp (by omega)
        have p3 : ¬ nI (n - p) < 0 := nI_pos (by omega)
        have p4 : (nI (n - p)).toNatClampNeg = n - p := nI_clamp (by omega)
        show zH de mi 66 0 [some (.ref l), some (.ref e), some (.int (nI p)), none] [] _ _
        refine k66_0 ?_; simp only [zt66_0, zt66_1, zt66_2, zt66_5, zt66_6, zt66_7, zt66_10, zt66_11, zt66_14, zt66_15, zt66_16, zt66_17, zt66_18, zt66_19, zt66_22, zt66_23, zt66_24, zt66_25, zt66_26, zt66_27, zt66_28, zt66_29, zt66_30, zt66_31, zt66_34, zt66_35, zt66_36, zt66_37, zt66_38, zt66_41, zt66_42, zt66_43, e_null, e_iconst, e_bipush, e_sipush, e_iload_n, e_iload, e_aload_n, e_aload_nN, e_aload, e_aloadN, e_istore_n, e_istore, e_astore_n, e_astore_nN, e_astore, e_astoreN, e_iinc, e_iadd, e_isub, e_imul, e_iand, e_ior, e_ishl, e_ishr, e_idiv, e_irem, e_iushr, e_ineg, e_i2l, e_lcmp, e_dup, e_dup_x1, e_dup2, e_pop, e_goto, e_if_eq, e_if_ne, e_if_lt, e_if_ge, e_if_gt, e_if_le, e_icmp_eq, e_icmp_ne, e_icmp_lt, e_icmp_ge, e_icmp_gt, e_icmp_le, e_acmp_eq, e_acmp_ne, e_ifnullN, e_ifnull, e_ifnonnull, e_ifnonnullN, e_getI, e_getR, e_putI, e_putZ, e_putR, e_putN, e_new, e_throw, e_newarray, e_anewarray, e_alen, e_iaload, e_iastore, e_aaload, e_aastore, e_aastoreN, e_cast, e_castN, e_gets, e_ldcM, e_ldcI, e_objInit, e_getC, e_mmax, e_mmin, e_mabs, e_copy, e_iret, e_zret, e_aret, e_aretN, e_ret, e_v1, e_v2, e_v3, e_v4, e_v6, e_s1, e_s3, e_s6, e_c102_0, e_c102_1, e_c102_2, e_c102_3, e_c102_4, e_c103_1, e_c104_5, e_c104_7, zld_0, zld_s, List.set_cons_succ, List.set_cons_zero, List.length_cons, List.length_nil, Nat.reduceAdd, Nat.reduceLT, Nat.reduceLeDiff, Nat.reduceEqDiff, Nat.zero_add, true_and, and_true, and_self, zcst_0, zcst_1, zcat_ref, zcat_int, zcat_null, zcat_rf, vrf_some, vrf_none, vrf_mid, ne_eq, reduceCtorEq, not_false_eq_true, not_true_eq_false, if_true, if_false, true_implies, false_implies, Option.some.injEq, Value.int.injEq, Value.ref.injEq, Value.long.injEq, implies_true, Nat.succ_ne_self, Nat.reduceMul, zI_sI, zI_sR, zR_sI, zR_sR, zK_sI, zK_sR, zret_some, zret_none, zret_thrown, List.cons_append, List.nil_append, Option.toList, or_self, or_false, false_or, true_or, or_true, nI_add, l1, ← hv, k2, hm, nI_ge hlt (show n < 2 ^ 31 by omega), e1, q2, p1, p2, p3, p4, pp, pc, np, nc]
        refine ⟨⟨by omega, by omega, t - 1, by omega, fun i v9 hi hr => ?_⟩, l1, ⟨Or.inr (by show (zK μ e).1 = 12; rw [q2]), by show n < (zK μ e).2; rw [q2]; show n < c; omega⟩, rfl⟩
        have e9 : f (p + 1 + i) = v9 := Option.some.inj ((l5 (p + 1 + i) (by omega)).symm.trans hr)
        have := l6 (p + 1 + i) (by omega)
        rw [e9] at this
        rw [this]
        exact congrArg (fun z => (z, 0)) (by omega)
    · obtain rfl : p = n := by omega
      refine ⟨zR μ e, fun k hk => ?_, fun Q => zCall.one ?_ Q⟩
      · show _ = some (if k < p then f k else f (k + 1))
        rw [if_pos hk]; exact l5 k (by omega)
      · have le := nI_le (Nat.le_refl p) (show p < 2 ^ 31 by omega)
        show zH de mi 66 0 [some (.ref l), some (.ref e), some (.int (nI p)), none] [] _ _
        refine k66_0 ?_; simp only [zt66_0, zt66_1, zt66_2, zt66_5, zt66_6, zt66_7, zt66_10, zt66_11, zt66_14, zt66_15, zt66_16, zt66_17, zt66_18, zt66_19, zt66_22, zt66_23, zt66_24, zt66_25, zt66_26, zt66_27, zt66_28, zt66_29, zt66_30, zt66_31, zt66_34, zt66_35, zt66_36, zt66_37, zt66_38, zt66_41, zt66_42, zt66_43, e_null, e_iconst, e_bipush, e_sipush, e_iload_n, e_iload, e_aload_n, e_aload_nN, e_aload, e_aloadN, e_istore_n, e_istore, e_astore_n, e_astore_nN, e_astore, e_astoreN, e_iinc, e_iadd, e_isub, e_imul, e_iand, e_ior, e_ishl, e_ishr, e_idiv, e_irem, e_iushr, e_ineg, e_i2l, e_lcmp, e_dup, e_dup_x1, e_dup2, e_pop, e_goto, e_if_eq, e_if_ne, e_if_lt, e_if_ge, e_if_gt, e_if_le, e_icmp_eq, e_icmp_ne, e_icmp_lt, e_icmp_ge, e_icmp_gt, e_icmp_le, e_acmp_eq, e_acmp_ne, e_ifnullN, e_ifnull, e_ifnonnull, e_ifnonnullN, e_getI, e_getR, e_putI, e_putZ, e_putR, e_putN, e_new, e_throw, e_newarray, e_anewarray, e_alen, e_iaload, e_iastore, e_aaload, e_aastore, e_aastoreN, e_cast, e_castN, e_gets, e_ldcM, e_ldcI, e_objInit, e_getC, e_mmax, e_mmin, e_mabs, e_copy, e_iret, e_zret, e_aret, e_aretN, e_ret, e_v1, e_v2, e_v3, e_v4, e_v6, e_s1, e_s3, e_s6, e_c102_0, e_c102_1, e_c102_2, e_c102_3, e_c102_4, e_c103_1, e_c104_5, e_c104_7, zld_0, zld_s, List.set_cons_succ, List.set_cons_zero, List.length_cons, List.length_nil, Nat.reduceAdd, Nat.reduceLT, Nat.reduceLeDiff, Nat.reduceEqDiff, Nat.zero_add, true_and, and_true, and_self, zcst_0, zcst_1, zcat_ref, zcat_int, zcat_null, zcat_rf, vrf_some, vrf_none, vrf_mid, ne_eq, reduceCtorEq, not_false_eq_true, not_true_eq_false, if_true, if_false, true_implies, false_implies, Option.some.injEq, Value.int.injEq, Value.ref.injEq, Value.long.injEq, implies_true, Nat.succ_ne_self, Nat.reduceMul, zI_sI, zI_sR, zR_sI, zR_sR, zK_sI, zK_sR, zret_some, zret_none, zret_thrown, List.cons_append, List.nil_append, Option.toList, or_self, or_false, false_or, true_or, or_true, nI_add, l1, ← hv, k2, hm, le]
        refine k66_34 ?_; simp only [zt66_34, zt66_35, zt66_36, zt66_37, zt66_38, zt66_41, zt66_42, zt66_43, e_null, e_iconst, e_bipush, e_sipush, e_iload_n, e_iload, e_aload_n, e_aload_nN, e_aload, e_aloadN, e_istore_n, e_istore, e_astore_n, e_astore_nN, e_astore, e_astoreN, e_iinc, e_iadd, e_isub, e_imul, e_iand, e_ior, e_ishl, e_ishr, e_idiv, e_irem, e_iushr, e_ineg, e_i2l, e_lcmp, e_dup, e_dup_x1, e_dup2, e_pop, e_goto, e_if_eq, e_if_ne, e_if_lt, e_if_ge, e_if_gt, e_if_le, e_icmp_eq, e_icmp_ne, e_icmp_lt, e_icmp_ge, e_icmp_gt, e_icmp_le, e_acmp_eq, e_acmp_ne, e_ifnullN, e_ifnull, e_ifnonnull, e_ifnonnullN, e_getI, e_getR, e_putI, e_putZ, e_putR, e_putN, e_new, e_throw, e_newarray, e_anewarray, e_alen, e_iaload, e_iastore, e_aaload, e_aastore, e_aastoreN, e_cast, e_castN, e_gets, e_ldcM, e_ldcI, e_objInit, e_getC, e_mmax, e_mmin, e_mabs, e_copy, e_iret, e_zret, e_aret, e_aretN, e_ret, e_v1, e_v2, e_v3, e_v4, e_v6, e_s1, e_s3, e_s6, e_c102_0, e_c102_1, e_c102_2, e_c102_3, e_c102_4, e_c103_1, e_c104_5, e_c104_7, zld_0, zld_s, List.set_cons_succ, List.set_cons_zero, List.length_cons, List.length_nil, Nat.reduceAdd, Nat.reduceLT, Nat.reduceLeDiff, Nat.reduceEqDiff, Nat.zero_add, true_and, and_true, and_self, zcst_0, zcst_1, zcat_ref, zcat_int, zcat_null, zcat_rf, vrf_some, vrf_none, vrf_mid, ne_eq, reduceCtorEq, not_false_eq_true, not_true_eq_false, if_true, if_false, true_implies, false_implies, Option.some.injEq, Value.int.injEq, Value.ref.injEq, Value.long.injEq, implies_true, Nat.succ_ne_self, Nat.reduceMul, zI_sI, zI_sR, zR_sI, zR_sR, zK_sI, zK_sR, zret_some, zret_none, zret_thrown, List.cons_append, List.nil_append, Option.toList, or_self, or_false, false_or, true_or, or_true, nI_add, l1, q2, pp, pc, show p < c by omega]
        refine congrArg (fun z => zsR (zsI z l 2 (nI p)) e p none) ?_
        refine Prod.ext rfl (Prod.ext rfl (Prod.ext ?_ rfl))
        funext a k
        show zR μ a k = if a = e then zR μ e k else zR μ a k
        by_cases q : a = e
        · rw [if_pos q, q]
        · rw [if_neg q]
  obtain ⟨gg, g1, g2⟩ := g
  obtain ⟨r1, r2, r3⟩ := zrm_ok (v := v) b hl l3 q2 q1 (show n < c by omega) q4 q5 hp g1
  show zH de mi 65 0 [some (.ref l), some (.int (nI p)), none, none] [] _ _
  refine k65_0 ?_; simp only [zt65_0, zt65_1, zt65_2, zt65_5, zt65_8, zt65_9, zt65_10, zt65_13, zt65_14, zt65_15, zt65_16, zt65_17, zt65_18, zt65_19, zt65_20, zt65_21, zt65_24, zt65_25, e_null, e_iconst, e_bipush, e_sipush, e_iload_n, e_iload, e_aload_n, e_aload_nN, e_aload, e_aloadN, e_istore_n, e_istore, e_astore_n, e_astore_nN, e_astore, e_astoreN, e_iinc, e_iadd, e_isub, e_imul, e_iand, e_ior, e_ishl, e_ishr, e_idiv, e_irem, e_iushr, e_ineg, e_i2l, e_lcmp, e_dup, e_dup_x1, e_dup2, e_pop, e_goto, e_if_eq, e_if_ne, e_if_lt, e_if_ge, e_if_gt, e_if_le, e_icmp_eq, e_icmp_ne, e_icmp_lt, e_icmp_ge, e_icmp_gt, e_icmp_le, e_acmp_eq, e_acmp_ne, e_ifnullN, e_ifnull, e_ifnonnull, e_ifnonnullN, e_getI, e_getR, e_putI, e_putZ, e_putR, e_putN, e_new, e_throw, e_newarray, e_anewarray, e_alen, e_iaload, e_iastore, e_aaload, e_aastore, e_aastoreN, e_cast, e_castN, e_gets, e_ldcM, e_ldcI, e_objInit, e_getC, e_mmax, e_mmin, e_mabs, e_copy, e_iret, e_zret, e_aret, e_aretN, e_ret, e_v1, e_v2, e_v3, e_v4, e_v6, e_s1, e_s3, e_s6, e_c102_0, e_c102_1, e_c102_2, e_c102_3, e_c102_4, e_c103_1, e_c104_5, e_c104_7, zld_0, zld_s, List.set_cons_succ, List.set_cons_zero, List.length_cons, List.length_nil, Nat.reduceAdd, Nat.reduceLT, Nat.reduceLeDiff, Nat.reduceEqDiff, Nat.zero_add, true_and, and_true, and_self, zcst_0, zcst_1, zcat_ref, zcat_int, zcat_null, zcat_rf, vrf_some, vrf_none, vrf_mid, ne_eq, reduceCtorEq, not_false_eq_true, not_true_eq_false, if_true, if_false, true_implies, false_implies, Option.some.injEq, Value.int.injEq, Value.ref.injEq, Value.long.injEq, implies_true, Nat.succ_ne_self, Nat.reduceMul, zI_sI, zI_sR, zR_sI, zR_sR, zK_sI, zK_sR, zret_some, zret_none, zret_thrown, List.cons_append, List.nil_append, Option.toList, or_self, or_false, false_or, true_or, or_true, nI_add, l1, l2, L109 (de := de) (mi := mi) (show p < n + 1 by omega) (show n + 1 < 1000 by omega), l3, q2, pp, pc, show p < c by omega, l5 p (show p < n + 1 by omega), g2]
  exact hq _ r1 r2 r3

