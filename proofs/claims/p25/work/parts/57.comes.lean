/-! ===== an actor comes: its cells, its slot, its place in the list ===== -/
/-- only the hall's own seven cells change -/
def zQt (h : Nat) (μ μ' : zM) : Prop := zK μ' = zK μ ∧ zS μ' = zS μ ∧ zJ μ' = zJ μ ∧ zC μ' = zC μ ∧ zL μ' = zL μ ∧ ∀ a, ¬ (h ≤ a ∧ a ≤ h + 6) → zI μ' a = zI μ a ∧ zR μ' a = zR μ a
theorem zQt.refl {h : Nat} {μ : zM} : zQt h μ μ := ⟨rfl, rfl, rfl, rfl, rfl, fun _ _ => ⟨rfl, rfl⟩⟩
theorem zQt.trans {h : Nat} {μ μ1 μ2 : zM} (a : zQt h μ μ1) (b : zQt h μ1 μ2) : zQt h μ μ2 := ⟨b.1.trans a.1, b.2.1.trans a.2.1, b.2.2.1.trans a.2.2.1, b.2.2.2.1.trans a.2.2.2.1, b.2.2.2.2.1.trans a.2.2.2.2.1, fun x hx => ⟨(b.2.2.2.2.2 x hx).1.trans (a.2.2.2.2.2 x hx).1, (b.2.2.2.2.2 x hx).2.trans (a.2.2.2.2.2 x hx).2⟩⟩
theorem zQt.putI {h j k : Nat} {x : Int32} {μ : zM} (hj : j ≤ 6) : zQt h μ (zsI μ (h + j) k x) := ⟨rfl, rfl, rfl, rfl, rfl, fun b hb => ⟨zup_f (by omega), rfl⟩⟩
theorem zQt.putR {h j k : Nat} {x : Option Nat} {μ : zM} (hj : j ≤ 6) : zQt h μ (zsR μ (h + j) k x) := ⟨rfl, rfl, rfl, rfl, rfl, fun b hb => ⟨rfl, zup_f (by omega)⟩⟩
theorem zQt.kp {h : Nat} {μ μ' : zM} (a : zQt h μ μ') : zKp h 0 0 μ μ' := ⟨Nat.le_of_eq a.2.1.symm, fun x _ => congrFun a.1 x, fun x hx => a.2.2.2.2.2 x (by unfold zpr at hx; omega), fun x _ => congrFun a.2.2.1 x, Nat.le_of_eq a.2.2.2.1, Nat.le_of_eq a.2.2.2.2.1⟩
theorem zcn_none {p : Nat → Bool} : ∀ {n}, (∀ k, k < n → p k = false) → zcn p n = 0
  | 0, _ => rfl
  | n + 1, h => by
    rw [zcn, zcn_none (fun k hk => h k (by omega)), h n (by omega)]; rfl
theorem zcn_pos {p : Nat → Bool} : ∀ {n k}, k < n → p k = true → 0 < zcn p n
  | n + 1, k, hk, h => by
    rw [zcn]
    by_cases e : k = n
    · subst e; rw [h]; simp
    · have := zcn_pos (n := n) (show k < n by omega) h; omega
theorem zlo_neg {σ : Nat → Nat → Int32} : zlo σ 12 < 0 ↔ zcn (zfr σ) 12 = 0 := by
  rcases zlo_is σ 12 (Nat.le_refl 12) with ⟨e, a⟩ | ⟨s, h1, h2, h3, e, a⟩
  · rw [e]
    exact ⟨fun _ => zcn_none (fun k hk => decide_eq_false (a k (by omega) hk)), fun _ => n1neg⟩
  · rw [e]
    have := zcn_pos (p := zfr σ) h2 (decide_eq_true h3)
    exact ⟨fun q => absurd q (nI_pos (by omega)), fun q => by omega⟩
section COMES
variable {de h mi n : Nat} {μ μ' : zM} {σ σ' : Nat → Nat → Int32} {A K A' K' : Nat → Nat} {B B' : Nat → Nat → Nat} {V N V' N' : Nat → Nat} {Q : zRes → zM → Prop}
theorem zHl'.same2 (H : zHl' de h μ σ n A K B V N) (hN : n ≤ 40) (w11 : zW11 σ n) (hS : zS μ ≤ zS μ') (hK : ∀ a, a < zS μ → zK μ' a = zK μ a) (hn : ∀ a, zS μ ≤ a → (zK μ' a).1 = 1 → zR μ' a 1 = some de) (hz : ∀ a, zS μ' ≤ a → zK μ' a = (0, 0)) (hI : ∀ a, a < zS μ → ¬ (h + 7 ≤ a ∧ a ≤ h + 6) → zI μ' a = zI μ a) (hR : ∀ a, a < zS μ → zR μ' a = zR μ a) (hb : ∀ a, h + 7 ≤ a → a ≤ h + 6 → 8 ≤ (zK μ a).1) : zHl' de h μ' σ n A K B V N := by
  have b := H.bs
  have hs := b.2.2.2.2.2
  have hde := b.2.1
  have kz : ∀ a t w, zK μ a = (t, w) → t ≠ 0 → a < zS μ := fun a t w q q2 => b.lt (by rw [q]; exact q2)
  have lv : ∀ l t m f, (l ≤ h + 6 ∨ h + 6 < l) → (∀ k, k < m → f k < zS μ) → zLv de h μ l t m f → zLv de h μ' l t m f := by
    intro l t m f hl hf ⟨h1, h2, ⟨e, h3, h4, h5⟩, h6, h7⟩
    have ll := kz l 1 0 h1 (by decide)
    have le := b.2.2.2.2.1 l e (by rw [h1]) h3
    exact ⟨by rw [hK l ll]; exact h1, by rw [hI l ll (by omega)]; exact h2, ⟨e, by rw [hR l ll]; exact h3, by rw [hK e le]; exact h4, fun k hk => by rw [hR e le]; exact h5 k hk⟩, fun k hk => by rw [hK _ (hf k hk)]; exact h6 k hk, h7⟩
  have lA : ∀ k, k < n → A k < zS μ := fun k hk => kz _ _ _ (H.kA hk) (by decide)
  have iA : ∀ k, k < n → zI μ' (A k) = zI μ (A k) := fun k hk => hI _ (lA k hk) (by have := H.gA hk; omega)
  refine ⟨⟨hz, b.2.1, by rw [hK de (by omega)]; exact b.2.2.1, ?_, ?_, by omega⟩, ?_, ⟨lv _ _ _ _ (by omega) lA H.la, lv _ _ _ _ (by omega) (fun k hk => kz _ _ _ (H.kV hk) (by decide)) H.lw, lv _ _ _ _ (by omega) (fun k hk => kz _ _ _ (H.kN hk) (by decide)) H.ls, fun k hk => ⟨by rw [hR _ (lA k hk)]; exact H.ra hk, lv _ _ _ _ (Or.inr (H.gK hk)) (fun j hj => kz _ _ _ (H.kB hk hj) (by decide)) (H.lk hk), H.gK hk, H.gA hk⟩, fun i j hi hj => H.iA hi hj, fun i j hi hj => H.iK hi hj⟩, ?_, ?_, ?_, ⟨fun s hs => ?_, ?_⟩, ⟨?_, ?_⟩, fun k hk => ?_, fun s hs h0 => ?_⟩
  · intro l l' e q1 q2 q3 q4
    by_cases l1 : l < zS μ
    · by_cases l2 : l' < zS μ
      · rw [hK l l1] at q1
        rw [hK l' l2] at q2
        rw [hR l l1] at q3
        rw [hR l' l2] at q4
        exact b.2.2.2.1 l l' e q1 q2 q3 q4
      · rw [hn l' (by omega) q2] at q4; cases q4; exact Or.inr rfl
    · rw [hn l (by omega) q1] at q3; cases q3; exact Or.inr rfl
  · intro l e q1 q3
    by_cases l1 : l < zS μ
    · rw [hK l l1] at q1
      rw [hR l l1] at q3
      have := b.2.2.2.2.1 l e q1 q3
      omega
    · rw [hn l (by omega) q1] at q3; cases q3; omega
  · unfold zPt
    rw [hR h (by omega), hR (h + 2) (by omega), hK h (by omega), hK (h + 2) (by omega), hK (h + 3) (by omega), hK (h + 4) (by omega)]
    exact H.2.1
  · intro k hk j hj
    have kb := H.kB hk hj
    have lb := kz _ _ _ kb (by decide)
    rw [hR _ lb, hI _ lb (fun q => by have := hb _ q.1 q.2; rw [kb] at this; revert this; simp)]
    exact ⟨H.b0 hk hj, H.b1 hk hj⟩
  · intro k hk
    have kb := H.kV hk
    rw [hI _ (kz _ _ _ kb (by decide)) (fun q => by have := hb _ q.1 q.2; rw [kb] at this; revert this; simp)]
    exact H.wv hk
  · intro k hk
    have kb := H.kN hk
    have lb := kz _ _ _ kb (by decide)
    rw [hR _ lb, hI _ lb (fun q => by have := hb _ q.1 q.2; rw [kb] at this; revert this; simp)]
    exact ⟨H.n0 hk, H.n1 hk⟩
  · rw [hI (h + 4) (by omega) (by omega), hR (h + 3) (by omega)]
    exact ⟨H.ag hs, H.sl hs⟩
  · rw [hI (h + 2) (by omega) (by omega)]; exact H.nx
  · rw [hI h (by omega) (by omega)]; exact H.fr
  · rw [hI h (by omega) (by omega)]; exact H.er
  · rw [iA k hk]; exact H.co hk
  · have hl : zly σ s < n := by
      rcases w11 s hs with q | ⟨t, ht, q⟩
      · exact absurd q h0
      · rw [zlyt (by omega) q]; exact ht
    rw [iA _ hl]; exact H.c9 hs h0
theorem C8x {μ : zM} (H : zHl' de h μ σ n A K B V N) (hN : n ≤ 40) (w11 : zW11 σ n) (hq : ∀ μ', zHl' de h μ' (zsw σ) n A K B V N → zQt h μ μ' → Q (.inl (some (.int (nI (zcn (zfe σ) 12))))) μ') : zCall de mi 8 [.ref (h + 2)] μ Q := by
  have H0 : zHl' de h μ (zsr σ 0) n A K B V N := by
    have : zsr σ 0 = σ := by funext f k; exact if_neg (fun q => Nat.not_lt_zero _ q.2)
    rw [this]; exact H
  show zH de mi 8 0 [some (.ref (h + 2)), none, none, none] [] _ _
  refine zx_sound (List.take 4 zt8_0) 0 _ _ _ (by decide +kernel) ?_; simp only [List.take_succ_cons, List.take_zero, zx_nil, zt8_0, zt8_1, zt8_2, zt8_3, e_null, e_iconst, e_bipush, e_sipush, e_iload_n, e_iload, e_aload_n, e_aload_nN, e_aload, e_aloadN, e_istore_n, e_istore, e_astore_n, e_astore_nN, e_astore, e_astoreN, e_iinc, e_iadd, e_isub, e_imul, e_iand, e_ior, e_ishl, e_ishr, e_idiv, e_irem, e_iushr, e_ineg, e_i2l, e_lcmp, e_dup, e_dup_x1, e_dup2, e_pop, e_goto, e_if_eq, e_if_ne, e_if_lt, e_if_ge, e_if_gt, e_if_le, e_icmp_eq, e_icmp_ne, e_icmp_lt, e_icmp_ge, e_icmp_gt, e_icmp_le, e_acmp_eq, e_acmp_ne, e_ifnullN, e_ifnull, e_ifnonnull, e_ifnonnullN, e_getI, e_getR, e_putI, e_putZ, e_putR, e_putN, e_new, e_throw, e_newarray, e_anewarray, e_alen, e_iaload, e_iastore, e_aaload, e_aastore, e_aastoreN, e_cast, e_castN, e_gets, e_ldcM, e_ldcI, e_objInit, e_getC, e_mmax, e_mmin, e_mabs, e_copy, e_iret, e_zret, e_aret, e_aretN, e_ret, e_v1, e_v2, e_v3, e_v4, e_v6, e_s1, e_s3, e_s6, e_c102_0, e_c102_1, e_c102_2, e_c102_3, e_c102_4, e_c103_1, e_c104_5, e_c104_7, zld_0, zld_s, List.set_cons_succ, List.set_cons_zero, List.length_cons, List.length_nil, Nat.reduceAdd, Nat.reduceLT, Nat.reduceLeDiff, Nat.reduceEqDiff, Nat.zero_add, true_and, and_true, and_self, zcst_0, zcst_1, zcat_ref, zcat_int, zcat_null, zcat_rf, vrf_some, vrf_none, vrf_mid, ne_eq, reduceCtorEq, not_false_eq_true, not_true_eq_false, if_true, if_false, true_implies, false_implies, Option.some.injEq, Value.int.injEq, Value.ref.injEq, Value.long.injEq, implies_true, Nat.succ_ne_self, Nat.reduceMul, zI_sI, zI_sR, zR_sI, zR_sR, zK_sI, zK_sR, zret_some, zret_none, zret_thrown, List.cons_append, List.nil_append, Option.toList, or_self, or_false, false_or, true_or, or_true, nI_add]
  refine zfor (P := fun i => ∀ μ1 v3, zHl' de h μ1 (zsr σ i) n A K B V N → zQt h μ μ1 → zH de mi 8 4 [some (.ref (h + 2)), some (.int (nI (zcn (zfe σ) i))), some (.int (nI i)), v3] [] μ1 Q) 12 (fun i hi ih => ?_) ?_ μ none H0 zQt.refl
  · intro μ1 v3 H1 kp
    have sl := H1.sl hi
    rw [zsr_g] at sl
    have keep : zsv σ i = σ 11 i → ∀ v3, zH de mi 8 38 [some (.ref (h + 2)), some (.int (nI (zcn (zfe σ) i))), some (.int (nI i)), v3] [] μ1 Q := by
      intro z v3
      have i2 := ih μ1 v3 (by rw [zsr_skip z]; exact H1) kp
      have e : zcn (zfe σ) (i + 1) = zcn (zfe σ) i := by
        have : zfe σ i = false := decide_eq_false (fun q => q.1 (z ▸ q.2))
        simp only [zcn, this, Bool.false_eq_true, if_false, Nat.add_zero]
      rw [e] at i2
      refine k8_38 ?_; simp only [zt8_38, zt8_41, e_null, e_iconst, e_bipush, e_sipush, e_iload_n, e_iload, e_aload_n, e_aload_nN, e_aload, e_aloadN, e_istore_n, e_istore, e_astore_n, e_astore_nN, e_astore, e_astoreN, e_iinc, e_iadd, e_isub, e_imul, e_iand, e_ior, e_ishl, e_ishr, e_idiv, e_irem, e_iushr, e_ineg, e_i2l, e_lcmp, e_dup, e_dup_x1, e_dup2, e_pop, e_goto, e_if_eq, e_if_ne, e_if_lt, e_if_ge, e_if_gt, e_if_le, e_icmp_eq, e_icmp_ne, e_icmp_lt, e_icmp_ge, e_icmp_gt, e_icmp_le, e_acmp_eq, e_acmp_ne, e_ifnullN, e_ifnull, e_ifnonnull, e_ifnonnullN, e_getI, e_getR, e_putI, e_putZ, e_putR, e_putN, e_new, e_throw, e_newarray, e_anewarray, e_alen, e_iaload, e_iastore, e_aaload, e_aastore, e_aastoreN, e_cast, e_castN, e_gets, e_ldcM, e_ldcI, e_objInit, e_getC, e_mmax, e_mmin, e_mabs, e_copy, e_iret, e_zret, e_aret, e_aretN, e_ret, e_v1, e_v2, e_v3, e_v4, e_v6, e_s1, e_s3, e_s6, e_c102_0, e_c102_1, e_c102_2, e_c102_3, e_c102_4, e_c103_1, e_c104_5, e_c104_7, zld_0, zld_s, List.set_cons_succ, List.set_cons_zero, List.length_cons, List.length_nil, Nat.reduceAdd, Nat.reduceLT, Nat.reduceLeDiff, Nat.reduceEqDiff, Nat.zero_add, true_and, and_true, and_self, zcst_0, zcst_1, zcat_ref, zcat_int, zcat_null, zcat_rf, vrf_some, vrf_none, vrf_mid, ne_eq, reduceCtorEq, not_false_eq_true, not_true_eq_false, if_true, if_false, true_implies, false_implies, Option.some.injEq, Value.int.injEq, Value.ref.injEq, Value.long.injEq, implies_true, Nat.succ_ne_self, Nat.reduceMul, zI_sI, zI_sR, zR_sI, zR_sR, zK_sI, zK_sR, zret_some, zret_none, zret_thrown, List.cons_append, List.nil_append, Option.toList, or_self, or_false, false_or, true_or, or_true, nI_add]
      exact i2
    by_cases c : σ 11 i = 0
    · rw [if_pos c] at sl
      refine k8_4 ?_; simp only [zt8_4, zt8_5, zt8_7, zt8_10, zt8_11, zt8_14, zt8_15, zt8_16, zt8_17, zt8_18, zt8_21, zt8_22, zt8_25, zt8_28, zt8_29, zt8_32, zt8_33, zt8_34, zt8_35, zt8_38, zt8_41, e_null, e_iconst, e_bipush, e_sipush, e_iload_n, e_iload, e_aload_n, e_aload_nN, e_aload, e_aloadN, e_istore_n, e_istore, e_astore_n, e_astore_nN, e_astore, e_astoreN, e_iinc, e_iadd, e_isub, e_imul, e_iand, e_ior, e_ishl, e_ishr, e_idiv, e_irem, e_iushr, e_ineg, e_i2l, e_lcmp, e_dup, e_dup_x1, e_dup2, e_pop, e_goto, e_if_eq, e_if_ne, e_if_lt, e_if_ge, e_if_gt, e_if_le, e_icmp_eq, e_icmp_ne, e_icmp_lt, e_icmp_ge, e_icmp_gt, e_icmp_le, e_acmp_eq, e_acmp_ne, e_ifnullN, e_ifnull, e_ifnonnull, e_ifnonnullN, e_getI, e_getR, e_putI, e_putZ, e_putR, e_putN, e_new, e_throw, e_newarray, e_anewarray, e_alen, e_iaload, e_iastore, e_aaload, e_aastore, e_aastoreN, e_cast, e_castN, e_gets, e_ldcM, e_ldcI, e_objInit, e_getC, e_mmax, e_mmin, e_mabs, e_copy, e_iret, e_zret, e_aret, e_aretN, e_ret, e_v1, e_v2, e_v3, e_v4, e_v6, e_s1, e_s3, e_s6, e_c102_0, e_c102_1, e_c102_2, e_c102_3, e_c102_4, e_c103_1, e_c104_5, e_c104_7, zld_0, zld_s, List.set_cons_succ, List.set_cons_zero, List.length_cons, List.length_nil, Nat.reduceAdd, Nat.reduceLT, Nat.reduceLeDiff, Nat.reduceEqDiff, Nat.zero_add, true_and, and_true, and_self, zcst_0, zcst_1, zcat_ref, zcat_int, zcat_null, zcat_rf, vrf_some, vrf_none, vrf_mid, ne_eq, reduceCtorEq, not_false_eq_true, not_true_eq_false, if_true, if_false, true_implies, false_implies, Option.some.injEq, Value.int.injEq, Value.ref.injEq, Value.long.injEq, implies_true, Nat.succ_ne_self, Nat.reduceMul, zI_sI, zI_sR, zR_sI, zR_sR, zK_sI, zK_sR, zret_some, zret_none, zret_thrown, List.cons_append, List.nil_append, Option.toList, or_self, or_false, false_or, true_or, or_true, nI_add, H1.k2, H1.r20, H1.k3, nI_ge hi (show 12 < 2 ^ 31 by decide), nI_pos (show i < 2 ^ 31 by omega), nI_clamp (show i < 2 ^ 31 by omega), hi, sl]
      rw [e_aload_nN rfl, e_ifnullN (by decide)]
      exact keep (by unfold zsv; rw [if_neg (fun q => q.1 c), c]) _
    · rw [if_neg c] at sl
      rcases w11 i hi with q | ⟨t, ht, et⟩
      · exact absurd q c
      have ey : zly (zsr σ i) i = t := by unfold zly; rw [zsr_g, et, nI_clamp (by omega)]; rfl
      have ev : zsv σ i = if σ 10 t ≠ 0 then σ 11 i else 0 := by
        unfold zsv
        rw [et, nI_clamp (by omega), Nat.add_sub_cancel]
        by_cases c10 : σ 10 t ≠ 0
        · rw [if_pos c10, if_pos ⟨by rw [← et]; exact c, c10⟩]
        · rw [if_neg c10, if_neg (fun q => c10 q.2)]
      rw [ey] at sl
      have c8 := H1.c8 ht
      rw [zsr_n (by decide)] at c8
      by_cases hh : σ 10 t = 0
      · rw [if_neg (fun q => q hh)] at ev
        have H2 := H1.putS (s := i)
        rw [zsr_up ev.symm] at H2
        have i2 := ih _ (some (.ref (A t))) H2 (kp.trans (zQt.putR (show 3 ≤ 6 by decide)))
        have e : zcn (zfe σ) (i + 1) = zcn (zfe σ) i + 1 := by
          have : zfe σ i = true := decide_eq_true ⟨c, ev⟩
          simp only [zcn, this, if_true]
        rw [e] at i2
        refine k8_4 ?_; simp only [zt8_4, zt8_5, zt8_7, zt8_10, zt8_11, zt8_14, zt8_15, zt8_16, zt8_17, zt8_18, zt8_21, zt8_22, zt8_25, zt8_28, zt8_29, zt8_32, zt8_33, zt8_34, zt8_35, zt8_38, zt8_41, e_null, e_iconst, e_bipush, e_sipush, e_iload_n, e_iload, e_aload_n, e_aload_nN, e_aload, e_aloadN, e_istore_n, e_istore, e_astore_n, e_astore_nN, e_astore, e_astoreN, e_iinc, e_iadd, e_isub, e_imul, e_iand, e_ior, e_ishl, e_ishr, e_idiv, e_irem, e_iushr, e_ineg, e_i2l, e_lcmp, e_dup, e_dup_x1, e_dup2, e_pop, e_goto, e_if_eq, e_if_ne, e_if_lt, e_if_ge, e_if_gt, e_if_le, e_icmp_eq, e_icmp_ne, e_icmp_lt, e_icmp_ge, e_icmp_gt, e_icmp_le, e_acmp_eq, e_acmp_ne, e_ifnullN, e_ifnull, e_ifnonnull, e_ifnonnullN, e_getI, e_getR, e_putI, e_putZ, e_putR, e_putN, e_new, e_throw, e_newarray, e_anewarray, e_alen, e_iaload, e_iastore, e_aaload, e_aastore, e_aastoreN, e_cast, e_castN, e_gets, e_ldcM, e_ldcI, e_objInit, e_getC, e_mmax, e_mmin, e_mabs, e_copy, e_iret, e_zret, e_aret, e_aretN, e_ret, e_v1, e_v2, e_v3, e_v4, e_v6, e_s1, e_s3, e_s6, e_c102_0, e_c102_1, e_c102_2, e_c102_3, e_c102_4, e_c103_1, e_c104_5, e_c104_7, zld_0, zld_s, List.set_cons_succ, List.set_cons_zero, List.length_cons, List.length_nil, Nat.reduceAdd, Nat.reduceLT, Nat.reduceLeDiff, Nat.reduceEqDiff, Nat.zero_add, true_and, and_true, and_self, zcst_0, zcst_1, zcat_ref, zcat_int, zcat_null, zcat_rf, vrf_some, vrf_none, vrf_mid, ne_eq, reduceCtorEq, not_false_eq_true, not_true_eq_false, if_true, if_false, true_implies, false_implies, Option.some.injEq, Value.int.injEq, Value.ref.injEq, Value.long.injEq, implies_true, Nat.succ_ne_self, Nat.reduceMul, zI_sI, zI_sR, zR_sI, zR_sR, zK_sI, zK_sR, zret_some, zret_none, zret_thrown, List.cons_append, List.nil_append, Option.toList, or_self, or_false, false_or, true_or, or_true, nI_add, H1.k2, H1.r20, H1.k3, nI_ge hi (show 12 < 2 ^ 31 by decide), nI_pos (show i < 2 ^ 31 by omega), nI_clamp (show i < 2 ^ 31 by omega), hi, sl, H1.kA ht, c8, hh]
        exact i2
      · rw [if_pos hh] at ev
        refine k8_4 ?_; simp only [zt8_4, zt8_5, zt8_7, zt8_10, zt8_11, zt8_14, zt8_15, zt8_16, zt8_17, zt8_18, zt8_21, zt8_22, zt8_25, zt8_28, zt8_29, zt8_32, zt8_33, zt8_34, zt8_35, zt8_38, zt8_41, e_null, e_iconst, e_bipush, e_sipush, e_iload_n, e_iload, e_aload_n, e_aload_nN, e_aload, e_aloadN, e_istore_n, e_istore, e_astore_n, e_astore_nN, e_astore, e_astoreN, e_iinc, e_iadd, e_isub, e_imul, e_iand, e_ior, e_ishl, e_ishr, e_idiv, e_irem, e_iushr, e_ineg, e_i2l, e_lcmp, e_dup, e_dup_x1, e_dup2, e_pop, e_goto, e_if_eq, e_if_ne, e_if_lt, e_if_ge, e_if_gt, e_if_le, e_icmp_eq, e_icmp_ne, e_icmp_lt, e_icmp_ge, e_icmp_gt, e_icmp_le, e_acmp_eq, e_acmp_ne, e_ifnullN, e_ifnull, e_ifnonnull, e_ifnonnullN, e_getI, e_getR, e_putI, e_putZ, e_putR, e_putN, e_new, e_throw, e_newarray, e_anewarray, e_alen, e_iaload, e_iastore, e_aaload, e_aastore, e_aastoreN, e_cast, e_castN, e_gets, e_ldcM, e_ldcI, e_objInit, e_getC, e_mmax, e_mmin, e_mabs, e_copy, e_iret, e_zret, e_aret, e_aretN, e_ret, e_v1, e_v2, e_v3, e_v4, e_v6, e_s1, e_s3, e_s6, e_c102_0, e_c102_1, e_c102_2, e_c102_3, e_c102_4, e_c103_1, e_c104_5, e_c104_7, zld_0, zld_s, List.set_cons_succ, List.set_cons_zero, List.length_cons, List.length_nil, Nat.reduceAdd, Nat.reduceLT, Nat.reduceLeDiff, Nat.reduceEqDiff, Nat.zero_add, true_and, and_true, and_self, zcst_0, zcst_1, zcat_ref, zcat_int, zcat_null, zcat_rf, vrf_some, vrf_none, vrf_mid, ne_eq, reduceCtorEq, not_false_eq_true, not_true_eq_false, if_true, if_false, true_implies, false_implies, Option.some.injEq, Value.int.injEq, Value.ref.injEq, Value.long.injEq, implies_true, Nat.succ_ne_self, Nat.reduceMul, zI_sI, zI_sR, zR_sI, zR_sR, zK_sI, zK_sR, zret_some, zret_none, zret_thrown, List.cons_append, List.nil_append, Option.toList, or_self, or_false, false_or, true_or, or_true, nI_add, H1.k2, H1.r20, H1.k3, nI_ge hi (show 12 < 2 ^ 31 by decide), nI_pos (show i < 2 ^ 31 by omega), nI_clamp (show i < 2 ^ 31 by omega), hi, sl, H1.kA ht, c8, hh]
        exact keep ev _
  · intro μ1 v3 H1 kp
    have H2 := H1.putN (x := nI 12) (y := -nI 1) hN (zsr_W11 w11) (by rw [if_pos n1neg])
    refine k8_4 ?_; simp only [zt8_4, zt8_5, zt8_7, zt8_10, zt8_11, zt8_14, zt8_15, zt8_16, zt8_17, zt8_18, zt8_21, zt8_22, zt8_25, zt8_28, zt8_29, zt8_32, zt8_33, zt8_34, zt8_35, zt8_38, zt8_41, e_null, e_iconst, e_bipush, e_sipush, e_iload_n, e_iload, e_aload_n, e_aload_nN, e_aload, e_aloadN, e_istore_n, e_istore, e_astore_n, e_astore_nN, e_astore, e_astoreN, e_iinc, e_iadd, e_isub, e_imul, e_iand, e_ior, e_ishl, e_ishr, e_idiv, e_irem, e_iushr, e_ineg, e_i2l, e_lcmp, e_dup, e_dup_x1, e_dup2, e_pop, e_goto, e_if_eq, e_if_ne, e_if_lt, e_if_ge, e_if_gt, e_if_le, e_icmp_eq, e_icmp_ne, e_icmp_lt, e_icmp_ge, e_icmp_gt, e_icmp_le, e_acmp_eq, e_acmp_ne, e_ifnullN, e_ifnull, e_ifnonnull, e_ifnonnullN, e_getI, e_getR, e_putI, e_putZ, e_putR, e_putN, e_new, e_throw, e_newarray, e_anewarray, e_alen, e_iaload, e_iastore, e_aaload, e_aastore, e_aastoreN, e_cast, e_castN, e_gets, e_ldcM, e_ldcI, e_objInit, e_getC, e_mmax, e_mmin, e_mabs, e_copy, e_iret, e_zret, e_aret, e_aretN, e_ret, e_v1, e_v2, e_v3, e_v4, e_v6, e_s1, e_s3, e_s6, e_c102_0, e_c102_1, e_c102_2, e_c102_3, e_c102_4, e_c103_1, e_c104_5, e_c104_7, zld_0, zld_s, List.set_cons_succ, List.set_cons_zero, List.length_cons, List.length_nil, Nat.reduceAdd, Nat.reduceLT, Nat.reduceLeDiff, Nat.reduceEqDiff, Nat.zero_add, true_and, and_true, and_self, zcst_0, zcst_1, zcat_ref, zcat_int, zcat_null, zcat_rf, vrf_some, vrf_none, vrf_mid, ne_eq, reduceCtorEq, not_false_eq_true, not_true_eq_false, if_true, if_false, true_implies, false_implies, Option.some.injEq, Value.int.injEq, Value.ref.injEq, Value.long.injEq, implies_true, Nat.succ_ne_self, Nat.reduceMul, zI_sI, zI_sR, zR_sI, zR_sR, zK_sI, zK_sR, zret_some, zret_none, zret_thrown, List.cons_append, List.nil_append, Option.toList, or_self, or_false, false_or, true_or, or_true, nI_add, nI_le (Nat.le_refl 12) (show 12 < 2 ^ 31 by decide)]
    refine k8_44 ?_; simp only [zt8_44, zt8_45, zt8_47, zt8_50, zt8_51, e_null, e_iconst, e_bipush, e_sipush, e_iload_n, e_iload, e_aload_n, e_aload_nN, e_aload, e_aloadN, e_istore_n, e_istore, e_astore_n, e_astore_nN, e_astore, e_astoreN, e_iinc, e_iadd, e_isub, e_imul, e_iand, e_ior, e_ishl, e_ishr, e_idiv, e_irem, e_iushr, e_ineg, e_i2l, e_lcmp, e_dup, e_dup_x1, e_dup2, e_pop, e_goto, e_if_eq, e_if_ne, e_if_lt, e_if_ge, e_if_gt, e_if_le, e_icmp_eq, e_icmp_ne, e_icmp_lt, e_icmp_ge, e_icmp_gt, e_icmp_le, e_acmp_eq, e_acmp_ne, e_ifnullN, e_ifnull, e_ifnonnull, e_ifnonnullN, e_getI, e_getR, e_putI, e_putZ, e_putR, e_putN, e_new, e_throw, e_newarray, e_anewarray, e_alen, e_iaload, e_iastore, e_aaload, e_aastore, e_aastoreN, e_cast, e_castN, e_gets, e_ldcM, e_ldcI, e_objInit, e_getC, e_mmax, e_mmin, e_mabs, e_copy, e_iret, e_zret, e_aret, e_aretN, e_ret, e_v1, e_v2, e_v3, e_v4, e_v6, e_s1, e_s3, e_s6, e_c102_0, e_c102_1, e_c102_2, e_c102_3, e_c102_4, e_c103_1, e_c104_5, e_c104_7, zld_0, zld_s, List.set_cons_succ, List.set_cons_zero, List.length_cons, List.length_nil, Nat.reduceAdd, Nat.reduceLT, Nat.reduceLeDiff, Nat.reduceEqDiff, Nat.zero_add, true_and, and_true, and_self, zcst_0, zcst_1, zcat_ref, zcat_int, zcat_null, zcat_rf, vrf_some, vrf_none, vrf_mid, ne_eq, reduceCtorEq, not_false_eq_true, not_true_eq_false, if_true, if_false, true_implies, false_implies, Option.some.injEq, Value.int.injEq, Value.ref.injEq, Value.long.injEq, implies_true, Nat.succ_ne_self, Nat.reduceMul, zI_sI, zI_sR, zR_sI, zR_sR, zK_sI, zK_sR, zret_some, zret_none, zret_thrown, List.cons_append, List.nil_append, Option.toList, or_self, or_false, false_or, true_or, or_true, nI_add, H1.k2]
    exact hq _ H2 (kp.trans (zQt.putI (show 2 ≤ 6 by decide)))
/-- other names for cells that no row speaks of -/
theorem zHl'.relab (H : zHl' de h μ σ n A K B V N) (hN : n ≤ 40) (w7 : zW7 σ n) (w11 : zW11 σ n) (w24 : zW24 σ n (zns σ)) (eA : ∀ k, k < n → A' k = A k) (eK : ∀ k, k < n → K' k = K k) (eB : ∀ k, k < n → B' k = B k) : zHl' de h μ σ n A' K' B' V N := by
  have lA : ∀ f, zLv de h μ (h + 1) 2 n f → (∀ k, k < n → A' k = f k) → zLv de h μ (h + 1) 2 n A' := by
    intro f ⟨h1, h2, ⟨e, h3, h4, h5⟩, h6, h7⟩ q
    exact ⟨h1, h2, ⟨e, h3, h4, fun k hk => by rw [q k hk]; exact h5 k hk⟩, fun k hk => by rw [q k hk]; exact h6 k hk, h7⟩
  refine ⟨H.bs, H.2.1, ⟨lA A H.la eA, H.lw, H.ls, fun k hk => ?_, fun i j hi hj e => ?_, fun i j hi hj e => ?_⟩, fun k hk j hj => ?_, H.2.2.2.2.1, fun k hk => ?_, ⟨fun s hs => ⟨H.ag hs, ?_⟩, H.nx⟩, H.2.2.2.2.2.2.2.1, fun k hk => ?_, fun s hs h0 => ?_⟩
  · rw [eA k hk, eK k hk, eB k hk]; exact ⟨H.ra hk, H.lk hk, H.gK hk, H.gA hk⟩
  · rw [eA i hi, eA j hj] at e; exact H.iA hi hj e
  · rw [eK i hi, eK j hj] at e; exact H.iK hi hj e
  · obtain ⟨l, hl, el⟩ := w7.1 k hk
    have hjl : j < l := by unfold znl at hj; rw [el, nI_clamp (by omega)] at hj; exact hj
    obtain ⟨t, ht, et⟩ := w7.2 (3 * k + j) (by omega) (by rw [show (3 * k + j) % 3 = j by omega, show (3 * k + j) / 3 = k by omega, el]; exact nI_lt hjl (by omega))
    have e2 : ztg σ (3 * k + j) = t := by unfold ztg; rw [et, nI_clamp (by omega)]
    have b0 := H.b0 hk hj
    rw [e2] at b0 ⊢
    rw [eB k hk, eA t ht]
    exact ⟨b0, H.b1 hk hj⟩
  · obtain ⟨t, ht, et⟩ := w24 k hk
    have n0 := H.n0 hk
    rw [et, nI_clamp (by omega)] at n0 ⊢
    rw [eA t ht]
    exact ⟨n0, H.n1 hk⟩
  · have sl := H.sl hs
    by_cases c : σ 11 s = 0
    · rw [if_pos c] at sl ⊢; exact sl
    · rw [if_neg c] at sl ⊢
      rcases w11 s hs with q | ⟨t, ht, q⟩
      · exact absurd q c
      · rw [zlyt (by omega) q] at sl ⊢
        rw [eA t ht]; exact sl
  · rw [eA k hk]; exact H.co hk
  · have c9 := H.c9 hs h0
    rcases w11 s hs with q | ⟨t, ht, q⟩
    · exact absurd q h0
    · rw [zlyt (by omega) q] at c9 ⊢
      rw [eA t ht]; exact c9
/-- an actor that is in no list yet -/
def zOr (de h : Nat) (μ : zM) (n : Nat) (A K : Nat → Nat) (B : Nat → Nat → Nat) (c w s l hd : Int32) : Prop := zK μ (A n) = (2, 0) ∧ h + 6 < A n ∧ (∀ k, k < n → A k ≠ A n) ∧ (zI μ (A n) 0 = nI n ∧ zI μ (A n) 1 = s ∧ zI μ (A n) 3 = hd ∧ zI μ (A n) 4 = c ∧ zI μ (A n) 5 = w ∧ zI μ (A n) 6 = l ∧ zI μ (A n) 7 = 0 ∧ zI μ (A n) 8 = 0 ∧ zI μ (A n) 9 = 0) ∧ zR μ (A n) 2 = some (K n) ∧ zLv de h μ (K n) 3 0 (B n) ∧ h + 6 < K n ∧ (∀ k, k < n → K k ≠ K n)
/-- the memory behind a new actor -/
def zna (de : Nat) (μ : zM) (x c w s l : Int32) : zM := zsR (zsR (zsI (znew (zsI (zsI (zsI (zsI (zsI (znew μ 2 0 10) (zS μ) 0 x) (zS μ) 4 c) (zS μ) 5 w) (zS μ) 1 s) (zS μ) 6 l) 1 0 3) (zS μ + 1) 0 (nI 0)) (zS μ + 1) 1 (some de)) (zS μ) 2 (some (zS μ + 1))
theorem zna_C0 {x c w s l : Int32} : zCall de mi 0 [.ref (zS μ), .int x, .int c, .int w, .int s, .int l] (znew μ 2 0 10) Q = Q (.inl none) (zna de μ x c w s l) := C0 (if_pos rfl) (by rw [zS_new]; omega)
theorem zna_K {x c w s l : Int32} (a : Nat) : zK (zna de μ x c w s l) a = if a = zS μ + 1 then (1, 0) else if a = zS μ then (2, 0) else zK μ a := rfl
theorem zna_old {x c w s l : Int32} {a : Nat} (h1 : a ≠ zS μ) (h2 : a ≠ zS μ + 1) : zI (zna de μ x c w s l) a = zI μ a ∧ zR (zna de μ x c w s l) a = zR μ a ∧ zJ (zna de μ x c w s l) a = zJ μ a := by
  refine ⟨?_, ?_, ?_⟩
  · unfold zna
    simp only [zI_sR, zI_sI, zup_f h2]
    funext j
    refine (if_neg h2).trans ?_
    simp only [zI_sI, zup_f h1]
    exact if_neg h1
  · unfold zna
    simp only [zR_sR, zR_sI, zup_f h2, zup_f h1]
    funext j
    refine (if_neg h2).trans ?_
    simp only [zR_sI]
    exact if_neg h1
  · funext j
    exact (if_neg h2).trans (if_neg h1)
theorem zna_x {x c w s l : Int32} : (zI (zna de μ x c w s l) (zS μ) 0 = x ∧ zI (zna de μ x c w s l) (zS μ) 1 = s ∧ zI (zna de μ x c w s l) (zS μ) 3 = 0 ∧ zI (zna de μ x c w s l) (zS μ) 4 = c ∧ zI (zna de μ x c w s l) (zS μ) 5 = w ∧ zI (zna de μ x c w s l) (zS μ) 6 = l ∧ zI (zna de μ x c w s l) (zS μ) 7 = 0 ∧ zI (zna de μ x c w s l) (zS μ) 8 = 0 ∧ zI (zna de μ x c w s l) (zS μ) 9 = 0) ∧ zR (zna de μ x c w s l) (zS μ) 2 = some (zS μ + 1) ∧ zI (zna de μ x c w s l) (zS μ + 1) 2 = nI 0 ∧ zR (zna de μ x c w s l) (zS μ + 1) 1 = some de := by
  have n1 : zS μ ≠ zS μ + 1 := by omega
  have n2 : zS μ + 1 ≠ zS μ := by omega
  have e : zS (zsI (zsI (zsI (zsI (zsI (znew μ 2 0 10) (zS μ) 0 x) (zS μ) 4 c) (zS μ) 5 w) (zS μ) 1 s) (zS μ) 6 l) = zS μ + 1 := rfl
  unfold zna
  simp only [zI_sR, zR_sR, zI_sI, zR_sI, zup_f n1, zup_f n2, zI_new, zR_new, e, if_neg n1, if_true]
  simp [zup, zI_new, zR_new]
  exact (if_pos rfl).trans nI_0.symm
theorem zHl'.newA {c w s l : Int32} (H : zHl' de h μ σ n A K B V N) (hN : n ≤ 40) (w7 : zW7 σ n) (w11 : zW11 σ n) (w24 : zW24 σ n (zns σ)) (md : zMd h μ) : zHl' de h (zna de μ (nI n) c w s l) σ n (zpt A n (zS μ)) (zpt K n (zS μ + 1)) B V N ∧ zOr de h (zna de μ (nI n) c w s l) n (zpt A n (zS μ)) (zpt K n (zS μ + 1)) B c w s l 0 ∧ zKp h 2 13 μ (zna de μ (nI n) c w s l) := by
  have hz := H.bs.2.2.2.2.2
  have sz : zS (zna de μ (nI n) c w s l) = zS μ + 2 := rfl
  have H1 : zHl' de h (zna de μ (nI n) c w s l) σ n A K B V N := by
    refine H.same2 hN w11 (by omega) (fun a ha => ?_) (fun a ha hk => ?_) (fun a ha => ?_) (fun a ha _ => (zna_old (by omega) (by omega)).1) (fun a ha => (zna_old (by omega) (by omega)).2.1) md
    · rw [zna_K, if_neg (by omega), if_neg (by omega)]
    · rw [zna_K] at hk
      by_cases q : a = zS μ + 1
      · rw [q]; exact zna_x.2.2.2
      · rw [if_neg q] at hk
        by_cases q2 : a = zS μ
        · rw [if_pos q2] at hk; exact absurd hk (by decide)
        · rw [if_neg q2, H.bs.1 a ha] at hk; exact absurd hk (by decide)
    · rw [zna_K, if_neg (by omega), if_neg (by omega)]; exact H.bs.1 a (by omega)
  have ln : ∀ (f : Nat → Nat) k x, k < n → zpt f n x k = f k := fun f k x hk => if_neg (by omega)
  have pn : ∀ (f : Nat → Nat) x, zpt f n x n = x := fun f x => if_pos rfl
  refine ⟨H1.relab hN w7 w11 w24 (fun k hk => ln A k _ hk) (fun k hk => ln K k _ hk) (fun _ _ => rfl), ?_, ⟨by omega, fun a ha => ?_, fun a ha => ?_, fun a ha => ?_, Nat.le_refl _, Nat.le_refl _⟩⟩
  · unfold zOr
    rw [pn, pn]
    refine ⟨by rw [zna_K, if_neg (by omega), if_pos rfl], by omega, fun k hk => ?_, zna_x.1, zna_x.2.1, ⟨by rw [zna_K, if_pos rfl], zna_x.2.2.1, ⟨de, zna_x.2.2.2, Or.inl ⟨rfl, rfl⟩, fun k hk => absurd hk (Nat.not_lt_zero k)⟩, fun k hk => absurd hk (Nat.not_lt_zero k), by decide, by decide⟩, by omega, fun k hk => ?_⟩
    · rw [ln _ _ _ hk]
      have : A k < zS μ := H.bs.lt (by rw [H.kA hk]; decide)
      omega
    · rw [ln _ _ _ hk]
      have : K k < zS μ := H.bs.lt (by rw [(H.lk hk).1]; decide)
      omega
  · rw [zna_K, if_neg (by omega), if_neg (by omega)]
  · have : a ≠ zS μ ∧ a ≠ zS μ + 1 := by unfold zpr at ha; omega
    exact ⟨(zna_old this.1 this.2).1, (zna_old this.1 this.2).2.1⟩
  · have : a ≠ zS μ ∧ a ≠ zS μ + 1 := by unfold zpr at ha; omega
    exact (zna_old this.1 this.2).2.2
end COMES

