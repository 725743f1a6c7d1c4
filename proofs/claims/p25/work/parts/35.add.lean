/-! ===== add ===== -/
/-- what an add to list l leaves alone -/
def zAd (de h l : Nat) (μ μ' : zM) : Prop := zS μ ≤ zS μ' ∧ (∀ a, a < zS μ → zK μ' a = zK μ a) ∧ (∀ a, zS μ ≤ a → (zK μ' a).1 = 0 ∨ (zK μ' a).1 = 12) ∧ (∀ a, a < zS μ → a ≠ l → (zK μ a).1 ≠ 12 → zI μ' a = zI μ a ∧ zR μ' a = zR μ a) ∧ (∀ a, a < zS μ → zJ μ' a = zJ μ a) ∧ (∀ l' t' n' f', l' ≠ l → zLv de h μ l' t' n' f' → zLv de h μ' l' t' n' f') ∧ (∀ a, zpr h a → zI μ' a = zI μ a ∧ zR μ' a = zR μ a) ∧ zC μ' ≤ zC μ + 1 ∧ zL μ' ≤ zL μ + 70
def zpt (f : Nat → Nat) (n x : Nat) : Nat → Nat := fun k => if k = n then x else f k
/-- the end of an add with room in array e -/
def zad1 (μ : zM) (l e n x : Nat) (v : Int32) : zM := zsI (zsR (zsI μ l 0 v) e n (some x)) l 2 (nI (n + 1))
/-- the end of an add that grew -/
def zad2 (μ : zM) (l c n x : Nat) (v : Int32) (w : Nat → Option Nat) : zM := zsI (zsR (zgw (zsI μ l 0 v) l c w) (zS μ) n (some x)) l 2 (nI (n + 1))
theorem zad1_ok {de h l e c t n x : Nat} {f : Nat → Nat} {v : Int32} {μ : zM} (b : zBs de h μ) (hl : zLv de h μ l t n f) (he : zR μ l 1 = some e) (hK : zK μ e = (12, c)) (h9 : h + 6 < e) (hnc : n < c) (h10 : 10 ≤ c) (hc : c < 1000) (hx : zK μ x = (t, 0)) (hp : ¬ zpr h l) : zBs de h (zad1 μ l e n x v) ∧ zLv de h (zad1 μ l e n x v) l t (n + 1) (zpt f n x) ∧ zAd de h l μ (zad1 μ l e n x v) := by
  obtain ⟨l1, l2, ⟨e', l3, l4, l5⟩, l6, l7⟩ := hl
  obtain rfl : e = e' := Option.some.inj (he.symm.trans l3)
  have hK' : zK (zad1 μ l e n x v) = zK μ := rfl
  have hI : ∀ a j, zI (zad1 μ l e n x v) a j = if a = l ∧ j = 2 then nI (n + 1) else if a = l ∧ j = 0 then v else zI μ a j := fun a j => rfl
  have hR : ∀ a j, zR (zad1 μ l e n x v) a j = if a = e ∧ j = n then some x else zR μ a j := fun a j => rfl
  have hle : l ≠ e := fun q => by rw [← q, l1] at hK; exact absurd (congrArg Prod.fst hK) (by simp)
  have hede : e ≠ de := by have := b.2.1; omega
  have hR1 : ∀ a, (zK μ a).1 ≠ 12 → zR (zad1 μ l e n x v) a = zR μ a := fun a ha => by
    funext j
    rw [hR, if_neg (fun q => ha (by rw [q.1, hK]))]
  refine ⟨⟨b.1, b.2.1, b.2.2.1, ?_, ?_, b.2.2.2.2.2⟩, ⟨l1, ?_, ⟨e, ?_, Or.inr ⟨h9, c, hK, hnc, h10, hc⟩, fun k hk => ?_⟩, fun k hk => ?_, l7⟩, Nat.le_refl _, fun a _ => rfl, fun a ha => ?_, fun a _ ha h12 => ?_, fun a _ => rfl, fun l' t' n' f' hne hl' => ?_, fun a ha => ?_, Nat.le_succ _, Nat.le_add_right _ _⟩
  · intro l1' l2' e1 q1 q2 q3 q4
    rw [hR1 l1' (by rw [hK'] at q1; omega)] at q3
    rw [hR1 l2' (by rw [hK'] at q2; omega)] at q4
    exact b.2.2.2.1 l1' l2' e1 q1 q2 q3 q4
  · intro l1' e1 q1 q3
    rw [hR1 l1' (by rw [hK'] at q1; omega)] at q3
    exact b.2.2.2.2.1 l1' e1 q1 q3
  · rw [hI, if_pos ⟨rfl, rfl⟩]
  · rw [hR1 l (by rw [l1]; decide)]; exact he
  · rw [hR]
    show _ = some (if k = n then x else f k)
    by_cases q : k = n
    · rw [if_pos ⟨rfl, q⟩, if_pos q]
    · rw [if_neg (fun q2 => q q2.2), if_neg q]; exact l5 k (by omega)
  · show zK μ (if k = n then x else f k) = _
    by_cases q : k = n
    · rw [if_pos q]; exact hx
    · rw [if_neg q]; exact l6 k (by omega)
  · left; rw [hK', b.1 a ha]
  · exact ⟨by funext j; rw [hI, if_neg (fun q => ha q.1), if_neg (fun q => ha q.1)], hR1 a h12⟩
  · obtain ⟨m1, m2, ⟨e2, m3, m4, m5⟩, m6, m7⟩ := hl'
    refine ⟨m1, ?_, ⟨e2, ?_, m4, fun k hk => ?_⟩, m6, m7⟩
    · rw [hI, if_neg (fun q => hne q.1), if_neg (fun q => hne q.1)]; exact m2
    · rw [hR1 l' (by rw [m1]; decide)]; exact m3
    · rw [hR, if_neg (fun q => ?_)]
      · exact m5 k hk
      · have := b.2.2.2.1 l' l e (by rw [m1]) (by rw [l1]) (by rw [m3, q.1]) he
        exact this.elim hne hede
  · have ha' : a ≠ l := fun q => hp (q ▸ ha)
    have ha2 : a ≠ e := fun q => by rw [q] at ha; unfold zpr at ha; omega
    refine ⟨by funext j; rw [hI, if_neg (fun q => ha' q.1), if_neg (fun q => ha' q.1)], by funext j; rw [hR, if_neg (fun q => ha2 q.1)]⟩
theorem zad2_ok {de h l c t n x : Nat} {f : Nat → Nat} {v : Int32} {w : Nat → Option Nat} {μ : zM} (b : zBs de h μ) (hl : zLv de h μ l t n f) (hnc : n < c) (h10 : 10 ≤ c) (hc : c ≤ 70) (hx : zK μ x = (t, 0)) (hp : ¬ zpr h l) (hw : ∀ k, k < n → w k = some (f k)) : zBs de h (zad2 μ l c n x v w) ∧ zLv de h (zad2 μ l c n x v w) l t (n + 1) (zpt f n x) ∧ zAd de h l μ (zad2 μ l c n x v w) := by
  obtain ⟨l1, l2, ⟨e', l3, l4, l5⟩, l6, l7⟩ := hl
  have hlt := b.lt (a := l) (by rw [l1]; decide)
  have hls : l ≠ zS μ := by omega
  have hS : zS (zad2 μ l c n x v w) = zS μ + 1 := rfl
  have hK' : ∀ a, zK (zad2 μ l c n x v w) a = if a = zS μ then (12, c) else zK μ a := fun a => rfl
  have hI : ∀ a j, zI (zad2 μ l c n x v w) a j = if a = l ∧ j = 2 then nI (n + 1) else if a = zS μ then 0 else if a = l ∧ j = 0 then v else zI μ a j := fun a j => rfl
  have hR : ∀ a j, zR (zad2 μ l c n x v w) a j = if a = zS μ ∧ j = n then some x else if a = l ∧ j = 1 then some (zS μ) else if a = zS μ then w j else if a = zS μ then none else zR μ a j := fun a j => rfl
  have hJ : ∀ a j, zJ (zad2 μ l c n x v w) a j = if a = zS μ then 0 else zJ μ a j := fun a j => rfl
  have hR1 : ∀ a, a ≠ zS μ → a ≠ l → zR (zad2 μ l c n x v w) a = zR μ a := fun a q1 q2 => by
    funext j
    rw [hR, if_neg (fun q => q1 q.1), if_neg (fun q => q2 q.1), if_neg q1, if_neg q1]
  have hRl : zR (zad2 μ l c n x v w) l 1 = some (zS μ) := by rw [hR, if_neg (fun q => hls q.1), if_pos ⟨rfl, rfl⟩]
  have hKl : ∀ a, a < zS μ → zK (zad2 μ l c n x v w) a = zK μ a := fun a ha => by rw [hK', if_neg (by omega)]
  have k1 : ∀ a, (zK (zad2 μ l c n x v w) a).1 = 1 → a < zS μ ∧ (zK μ a).1 = 1 := by
    intro a ha
    rw [hK'] at ha
    by_cases q : a = zS μ
    · rw [if_pos q] at ha; exact absurd ha (by simp)
    · rw [if_neg q] at ha; exact ⟨b.lt (by omega), ha⟩
  refine ⟨⟨fun a ha => ?_, b.2.1, ?_, ?_, ?_, ?_⟩, ⟨?_, ?_, ⟨zS μ, hRl, Or.inr ⟨b.2.2.2.2.2, c, ?_, hnc, h10, by omega⟩, fun k hk => ?_⟩, fun k hk => ?_, l7⟩, Nat.le_succ _, hKl, fun a ha => ?_, fun a q1 ha h12 => ?_, fun a q1 => ?_, fun l' t' n' f' hne hl' => ?_, fun a ha => ?_, Nat.le_refl _, ?_⟩
  · rw [hS] at ha
    rw [hK', if_neg (by omega)]; exact b.1 a (by omega)
  · have := b.2.1; have := b.2.2.2.2.2
    rw [hKl de (by omega)]; exact b.2.2.1
  · intro l1' l2' e1 q1 q2 q3 q4
    obtain ⟨r1, s1⟩ := k1 _ q1
    obtain ⟨r2, s2⟩ := k1 _ q2
    by_cases c1 : l1' = l
    · by_cases c2 : l2' = l
      · exact Or.inl (c1.trans c2.symm)
      · rw [c1, hRl] at q3
        rw [hR1 l2' (by omega) c2] at q4
        have := b.2.2.2.2.1 l2' e1 s2 q4
        have q5 := Option.some.inj q3
        omega
    · by_cases c2 : l2' = l
      · rw [c2, hRl] at q4
        rw [hR1 l1' (by omega) c1] at q3
        have := b.2.2.2.2.1 l1' e1 s1 q3
        have q5 := Option.some.inj q4
        omega
      · rw [hR1 l1' (by omega) c1] at q3
        rw [hR1 l2' (by omega) c2] at q4
        exact b.2.2.2.1 l1' l2' e1 s1 s2 q3 q4
  · intro l1' e1 q1 q3
    obtain ⟨r1, s1⟩ := k1 _ q1
    rw [hS]
    by_cases c1 : l1' = l
    · rw [c1, hRl] at q3
      have q5 := Option.some.inj q3
      omega
    · rw [hR1 l1' (by omega) c1] at q3
      have := b.2.2.2.2.1 l1' e1 s1 q3
      omega
  · rw [hS]; have := b.2.2.2.2.2; omega
  · rw [hKl l hlt]; exact l1
  · rw [hI, if_pos ⟨rfl, rfl⟩]
  · rw [hK', if_pos rfl]
  · rw [hR]
    show _ = some (if k = n then x else f k)
    by_cases q : k = n
    · rw [if_pos ⟨rfl, q⟩, if_pos q]
    · rw [if_neg (fun q2 => q q2.2), if_neg (fun q2 => hls q2.1.symm), if_pos rfl, if_neg q]; exact hw k (by omega)
  · show zK (zad2 μ l c n x v w) (if k = n then x else f k) = _
    by_cases q : k = n
    · rw [if_pos q, hKl x (b.lt (by rw [hx]; show t ≠ 0; omega))]; exact hx
    · have := l6 k (by omega)
      rw [if_neg q, hKl _ (b.lt (by rw [this]; show t ≠ 0; omega))]; exact this
  · rw [hK']
    by_cases q : a = zS μ
    · rw [if_pos q]; exact Or.inr rfl
    · rw [if_neg q, b.1 a ha]; exact Or.inl rfl
  · exact ⟨by funext j; rw [hI, if_neg (fun q => ha q.1), if_neg (by omega), if_neg (fun q => ha q.1)], hR1 a (by omega) ha⟩
  · funext j; rw [hJ, if_neg (by omega)]
  · obtain ⟨m1, m2, ⟨e2, m3, m4, m5⟩, m6, m7⟩ := hl'
    have r1 := b.lt (a := l') (by rw [m1]; decide)
    have r2 := b.2.2.2.2.1 l' e2 (by rw [m1]) m3
    refine ⟨by rw [hKl l' r1]; exact m1, ?_, ⟨e2, ?_, ?_, fun k hk => ?_⟩, fun k hk => ?_, m7⟩
    · rw [hI, if_neg (fun q => hne q.1), if_neg (by omega), if_neg (fun q => hne q.1)]; exact m2
    · rw [hR1 l' (by omega) hne]; exact m3
    · rw [hKl e2 r2]; exact m4
    · have e2l : e2 ≠ l := by
        rintro rfl
        rcases m4 with ⟨q, -⟩ | ⟨-, c', q, -⟩
        · rw [q] at l1; rw [b.2.2.1] at l1; exact absurd (congrArg Prod.fst l1) (by simp)
        · rw [q] at l1; exact absurd (congrArg Prod.fst l1) (by simp)
      rw [hR1 e2 (by omega) e2l]; exact m5 k hk
    · have := m6 k hk
      rw [hKl _ (b.lt (by rw [this]; show t' ≠ 0; omega))]; exact this
  · have ha' : a ≠ l := fun q => hp (q ▸ ha)
    have ha2 : a ≠ zS μ := fun q => by have := b.2.2.2.2.2; rw [q] at ha; unfold zpr at ha; omega
    exact ⟨by funext j; rw [hI, if_neg (fun q => ha' q.1), if_neg ha2, if_neg (fun q => ha' q.1)], hR1 a ha2 ha'⟩
  · show zL μ + c ≤ zL μ + 70; omega
/-- the end of add -/
theorem L103a {de mi l e c t n x : Nat} {μ : zM} {Q : zRes → zM → Prop} (l1 : zK μ l = (1, 0)) (hK : zK μ e = (12, c)) (hnc : n < c) (hc : c < 1000) (hx : zK μ x = (t, 0)) (h1 : 1 ≤ t) (h8 : t ≤ 8) : zCall de mi 63 [.ref l, .ref x, .ref e, .int (nI n)] μ Q = Q (.inl none) (zsI (zsR μ e n (some x)) l 2 (nI (n + 1))) := by
  refine zCall.one ?_ Q
  have h9 : ¬ nI n = nI c := fun q => by have := (nI_eq (by omega) (by omega)).mp q; omega
  show zH de mi 63 0 [some (.ref l), some (.ref x), some (.ref e), some (.int (nI n))] [] _ _
  refine k63_0 ?_; simp only [zt63_0, zt63_1, zt63_2, zt63_3, zt63_6, zt63_7, zt63_10, zt63_11, zt63_12, zt63_13, zt63_14, zt63_15, zt63_16, zt63_17, zt63_18, zt63_19, zt63_22, e_null, e_iconst, e_bipush, e_sipush, e_iload_n, e_iload, e_aload_n, e_aload_nN, e_aload, e_aloadN, e_istore_n, e_istore, e_astore_n, e_astore_nN, e_astore, e_astoreN, e_iinc, e_iadd, e_isub, e_imul, e_iand, e_ior, e_ishl, e_ishr, e_idiv, e_irem, e_iushr, e_ineg, e_i2l, e_lcmp, e_dup, e_dup_x1, e_dup2, e_pop, e_goto, e_if_eq, e_if_ne, e_if_lt, e_if_ge, e_if_gt, e_if_le, e_icmp_eq, e_icmp_ne, e_icmp_lt, e_icmp_ge, e_icmp_gt, e_icmp_le, e_acmp_eq, e_acmp_ne, e_ifnullN, e_ifnull, e_ifnonnull, e_ifnonnullN, e_getI, e_getR, e_putI, e_putZ, e_putR, e_putN, e_new, e_throw, e_newarray, e_anewarray, e_alen, e_iaload, e_iastore, e_aaload, e_aastore, e_aastoreN, e_cast, e_castN, e_gets, e_ldcM, e_ldcI, e_objInit, e_getC, e_mmax, e_mmin, e_mabs, e_copy, e_iret, e_zret, e_aret, e_aretN, e_ret, e_v1, e_v2, e_v3, e_v4, e_v6, e_s1, e_s3, e_s6, e_c102_0, e_c102_1, e_c102_2, e_c102_3, e_c102_4, e_c103_1, e_c104_5, e_c104_7, zld_0, zld_s, List.set_cons_succ, List.set_cons_zero, List.length_cons, List.length_nil, Nat.reduceAdd, Nat.reduceLT, Nat.reduceLeDiff, Nat.reduceEqDiff, Nat.zero_add, true_and, and_true, and_self, zcst_0, zcst_1, zcat_ref, zcat_int, zcat_null, zcat_rf, vrf_some, vrf_none, vrf_mid, ne_eq, reduceCtorEq, not_false_eq_true, not_true_eq_false, if_true, if_false, true_implies, false_implies, Option.some.injEq, Value.int.injEq, Value.ref.injEq, Value.long.injEq, implies_true, Nat.succ_ne_self, Nat.reduceMul, zI_sI, zI_sR, zR_sI, zR_sR, zK_sI, zK_sR, zret_some, zret_none, zret_thrown, List.cons_append, List.nil_append, Option.toList, or_self, or_false, false_or, true_or, or_true, nI_add, hK, h9, show 9 ≤ 12 by decide, show 12 ≤ 15 by decide]
  refine k63_11 ?_; simp only [zt63_11, zt63_12, zt63_13, zt63_14, zt63_15, zt63_16, zt63_17, zt63_18, zt63_19, zt63_22, e_null, e_iconst, e_bipush, e_sipush, e_iload_n, e_iload, e_aload_n, e_aload_nN, e_aload, e_aloadN, e_istore_n, e_istore, e_astore_n, e_astore_nN, e_astore, e_astoreN, e_iinc, e_iadd, e_isub, e_imul, e_iand, e_ior, e_ishl, e_ishr, e_idiv, e_irem, e_iushr, e_ineg, e_i2l, e_lcmp, e_dup, e_dup_x1, e_dup2, e_pop, e_goto, e_if_eq, e_if_ne, e_if_lt, e_if_ge, e_if_gt, e_if_le, e_icmp_eq, e_icmp_ne, e_icmp_lt, e_icmp_ge, e_icmp_gt, e_icmp_le, e_acmp_eq, e_acmp_ne, e_ifnullN, e_ifnull, e_ifnonnull, e_ifnonnullN, e_getI, e_getR, e_putI, e_putZ, e_putR, e_putN, e_new, e_throw, e_newarray, e_anewarray, e_alen, e_iaload, e_iastore, e_aaload, e_aastore, e_aastoreN, e_cast, e_castN, e_gets, e_ldcM, e_ldcI, e_objInit, e_getC, e_mmax, e_mmin, e_mabs, e_copy, e_iret, e_zret, e_aret, e_aretN, e_ret, e_v1, e_v2, e_v3, e_v4, e_v6, e_s1, e_s3, e_s6, e_c102_0, e_c102_1, e_c102_2, e_c102_3, e_c102_4, e_c103_1, e_c104_5, e_c104_7, zld_0, zld_s, List.set_cons_succ, List.set_cons_zero, List.length_cons, List.length_nil, Nat.reduceAdd, Nat.reduceLT, Nat.reduceLeDiff, Nat.reduceEqDiff, Nat.zero_add, true_and, and_true, and_self, zcst_0, zcst_1, zcat_ref, zcat_int, zcat_null, zcat_rf, vrf_some, vrf_none, vrf_mid, ne_eq, reduceCtorEq, not_false_eq_true, not_true_eq_false, if_true, if_false, true_implies, false_implies, Option.some.injEq, Value.int.injEq, Value.ref.injEq, Value.long.injEq, implies_true, Nat.succ_ne_self, Nat.reduceMul, zI_sI, zI_sR, zR_sI, zR_sR, zK_sI, zK_sR, zret_some, zret_none, zret_thrown, List.cons_append, List.nil_append, Option.toList, or_self, or_false, false_or, true_or, or_true, nI_add, hK, hx, h1, h8, nI_pos (show n < 2 ^ 31 by omega), nI_clamp (show n < 2 ^ 31 by omega), hnc, l1]
theorem L103g {de mi l e c c2 t n x : Nat} {w : Nat → Option Nat} {μ : zM} {Q : zRes → zM → Prop} (l1 : zK μ l = (1, 0)) (l2 : zI μ l 2 = nI n) (he : 9 ≤ (zK μ e).1 ∧ (zK μ e).1 ≤ 15) (hc : (zK μ e).2 = n) (hls : l ≠ zS μ) (hxs : x ≠ zS μ) (hn : n < c2) (hc2 : c2 < 1000) (hx : zK μ x = (t, 0)) (h1 : 1 ≤ t) (h8 : t ≤ 8) (hg : ∀ Q, zCall de mi 58 [.ref l, .int (nI (n + 1))] μ Q = Q (.inl (some (.ref (zS μ)))) (zgw μ l c2 w)) : zCall de mi 63 [.ref l, .ref x, .ref e, .int (nI n)] μ Q = Q (.inl none) (zsI (zsR (zgw μ l c2 w) (zS μ) n (some x)) l 2 (nI (n + 1))) := by
  refine zCall.one ?_ Q
  have g : ∀ Q, zCall de mi 59 [.ref l] μ Q = Q (.inl (some (.ref (zS μ)))) (zgw μ l c2 w) := by
    intro Q
    refine zCall.one ?_ Q
    show zH de mi 59 0 [some (.ref l)] [] _ _
    refine k59_0 ?_; simp only [zt59_0, zt59_1, zt59_2, zt59_5, zt59_6, zt59_7, zt59_10, e_null, e_iconst, e_bipush, e_sipush, e_iload_n, e_iload, e_aload_n, e_aload_nN, e_aload, e_aloadN, e_istore_n, e_istore, e_astore_n, e_astore_nN, e_astore, e_astoreN, e_iinc, e_iadd, e_isub, e_imul, e_iand, e_ior, e_ishl, e_ishr, e_idiv, e_irem, e_iushr, e_ineg, e_i2l, e_lcmp, e_dup, e_dup_x1, e_dup2, e_pop, e_goto, e_if_eq, e_if_ne, e_if_lt, e_if_ge, e_if_gt, e_if_le, e_icmp_eq, e_icmp_ne, e_icmp_lt, e_icmp_ge, e_icmp_gt, e_icmp_le, e_acmp_eq, e_acmp_ne, e_ifnullN, e_ifnull, e_ifnonnull, e_ifnonnullN, e_getI, e_getR, e_putI, e_putZ, e_putR, e_putN, e_new, e_throw, e_newarray, e_anewarray, e_alen, e_iaload, e_iastore, e_aaload, e_aastore, e_aastoreN, e_cast, e_castN, e_gets, e_ldcM, e_ldcI, e_objInit, e_getC, e_mmax, e_mmin, e_mabs, e_copy, e_iret, e_zret, e_aret, e_aretN, e_ret, e_v1, e_v2, e_v3, e_v4, e_v6, e_s1, e_s3, e_s6, e_c102_0, e_c102_1, e_c102_2, e_c102_3, e_c102_4, e_c103_1, e_c104_5, e_c104_7, zld_0, zld_s, List.set_cons_succ, List.set_cons_zero, List.length_cons, List.length_nil, Nat.reduceAdd, Nat.reduceLT, Nat.reduceLeDiff, Nat.reduceEqDiff, Nat.zero_add, true_and, and_true, and_self, zcst_0, zcst_1, zcat_ref, zcat_int, zcat_null, zcat_rf, vrf_some, vrf_none, vrf_mid, ne_eq, reduceCtorEq, not_false_eq_true, not_true_eq_false, if_true, if_false, true_implies, false_implies, Option.some.injEq, Value.int.injEq, Value.ref.injEq, Value.long.injEq, implies_true, Nat.succ_ne_self, Nat.reduceMul, zI_sI, zI_sR, zR_sI, zR_sR, zK_sI, zK_sR, zret_some, zret_none, zret_thrown, List.cons_append, List.nil_append, Option.toList, or_self, or_false, false_or, true_or, or_true, nI_add, l1, l2, hg]
  have kz : zK (zgw μ l c2 w) (zS μ) = (12, c2) := if_pos rfl
  have kl : zK (zgw μ l c2 w) l = (1, 0) := (if_neg hls).trans l1
  have kx : zK (zgw μ l c2 w) x = (t, 0) := (if_neg hxs).trans hx
  show zH de mi 63 0 [some (.ref l), some (.ref x), some (.ref e), some (.int (nI n))] [] _ _
  refine k63_0 ?_; simp only [zt63_0, zt63_1, zt63_2, zt63_3, zt63_6, zt63_7, zt63_10, zt63_11, zt63_12, zt63_13, zt63_14, zt63_15, zt63_16, zt63_17, zt63_18, zt63_19, zt63_22, e_null, e_iconst, e_bipush, e_sipush, e_iload_n, e_iload, e_aload_n, e_aload_nN, e_aload, e_aloadN, e_istore_n, e_istore, e_astore_n, e_astore_nN, e_astore, e_astoreN, e_iinc, e_iadd, e_isub, e_imul, e_iand, e_ior, e_ishl, e_ishr, e_idiv, e_irem, e_iushr, e_ineg, e_i2l, e_lcmp, e_dup, e_dup_x1, e_dup2, e_pop, e_goto, e_if_eq, e_if_ne, e_if_lt, e_if_ge, e_if_gt, e_if_le, e_icmp_eq, e_icmp_ne, e_icmp_lt, e_icmp_ge, e_icmp_gt, e_icmp_le, e_acmp_eq, e_acmp_ne, e_ifnullN, e_ifnull, e_ifnonnull, e_ifnonnullN, e_getI, e_getR, e_putI, e_putZ, e_putR, e_putN, e_new, e_throw, e_newarray, e_anewarray, e_alen, e_iaload, e_iastore, e_aaload, e_aastore, e_aastoreN, e_cast, e_castN, e_gets, e_ldcM, e_ldcI, e_objInit, e_getC, e_mmax, e_mmin, e_mabs, e_copy, e_iret, e_zret, e_aret, e_aretN, e_ret, e_v1, e_v2, e_v3, e_v4, e_v6, e_s1, e_s3, e_s6, e_c102_0, e_c102_1, e_c102_2, e_c102_3, e_c102_4, e_c103_1, e_c104_5, e_c104_7, zld_0, zld_s, List.set_cons_succ, List.set_cons_zero, List.length_cons, List.length_nil, Nat.reduceAdd, Nat.reduceLT, Nat.reduceLeDiff, Nat.reduceEqDiff, Nat.zero_add, true_and, and_true, and_self, zcst_0, zcst_1, zcat_ref, zcat_int, zcat_null, zcat_rf, vrf_some, vrf_none, vrf_mid, ne_eq, reduceCtorEq, not_false_eq_true, not_true_eq_false, if_true, if_false, true_implies, false_implies, Option.some.injEq, Value.int.injEq, Value.ref.injEq, Value.long.injEq, implies_true, Nat.succ_ne_self, Nat.reduceMul, zI_sI, zI_sR, zR_sI, zR_sR, zK_sI, zK_sR, zret_some, zret_none, zret_thrown, List.cons_append, List.nil_append, Option.toList, or_self, or_false, false_or, true_or, or_true, nI_add, he, hc, l1, g, kz, kx, h1, h8, nI_pos (show n < 2 ^ 31 by omega), nI_clamp (show n < 2 ^ 31 by omega), hn, kl, show 9 ≤ 12 by decide]
/-- add -/
theorem L104 {de h mi l t n x : Nat} {f : Nat → Nat} {μ : zM} {Q : zRes → zM → Prop} (b : zBs de h μ) (hl : zLv de h μ l t n f) (hx : zK μ x = (t, 0)) (hp : ¬ zpr h l) (hn : n ≤ 45) (hq : ∀ μ', zBs de h μ' → zLv de h μ' l t (n + 1) (zpt f n x) → zAd de h l μ μ' → Q (.inl (some (.int (nI 1)))) μ') : zCall de mi 64 [.ref l, .ref x] μ Q := by
  have hl' := hl
  obtain ⟨l1, l2, ⟨e, l3, l4, l5⟩, l6, l7, l8⟩ := hl'
  have hlt := b.lt (a := l) (by rw [l1]; decide)
  have hxt := b.lt (a := x) (by rw [hx]; show t ≠ 0; omega)
  have hls : l ≠ zS μ := by omega
  have hxs : x ≠ zS μ := by omega
  obtain ⟨v, hv⟩ : ∃ v, v = zI μ l 0 + nI 1 := ⟨_, rfl⟩
  have k2 : zI (zsI μ l 0 v) l 2 = nI n := (zup_k (by decide)).trans l2
  have b1 : zBs de h (zsI μ l 0 v) := b
  show zH de mi 64 0 [some (.ref l), some (.ref x)] [] _ _
  have fin : ∀ μ', (∀ Q, zCall de mi 63 [.ref l, .ref x, .ref e, .int (nI n)] (zsI μ l 0 v) Q = Q (.inl none) μ') → Q (.inl (some (.int (nI 1)))) μ' → zH de mi 64 0 [some (.ref l), some (.ref x)] [] μ Q := by
    intro μ' hc hQ
    refine k64_0 ?_; simp only [zt64_0, zt64_1, zt64_2, zt64_5, zt64_6, zt64_7, zt64_10, zt64_11, zt64_12, zt64_13, zt64_16, zt64_17, zt64_20, zt64_23, zt64_24, e_null, e_iconst, e_bipush, e_sipush, e_iload_n, e_iload, e_aload_n, e_aload_nN, e_aload, e_aloadN, e_istore_n, e_istore, e_astore_n, e_astore_nN, e_astore, e_astoreN, e_iinc, e_iadd, e_isub, e_imul, e_iand, e_ior, e_ishl, e_ishr, e_idiv, e_irem, e_iushr, e_ineg, e_i2l, e_lcmp, e_dup, e_dup_x1, e_dup2, e_pop, e_goto, e_if_eq, e_if_ne, e_if_lt, e_if_ge, e_if_gt, e_if_le, e_icmp_eq, e_icmp_ne, e_icmp_lt, e_icmp_ge, e_icmp_gt, e_icmp_le, e_acmp_eq, e_acmp_ne, e_ifnullN, e_ifnull, e_ifnonnull, e_ifnonnullN, e_getI, e_getR, e_putI, e_putZ, e_putR, e_putN, e_new, e_throw, e_newarray, e_anewarray, e_alen, e_iaload, e_iastore, e_aaload, e_aastore, e_aastoreN, e_cast, e_castN, e_gets, e_ldcM, e_ldcI, e_objInit, e_getC, e_mmax, e_mmin, e_mabs, e_copy, e_iret, e_zret, e_aret, e_aretN, e_ret, e_v1, e_v2, e_v3, e_v4, e_v6, e_s1, e_s3, e_s6, e_c102_0, e_c102_1, e_c102_2, e_c102_3, e_c102_4, e_c103_1, e_c104_5, e_c104_7, zld_0, zld_s, List.set_cons_succ, List.set_cons_zero, List.length_cons, List.length_nil, Nat.reduceAdd, Nat.reduceLT, Nat.reduceLeDiff, Nat.reduceEqDiff, Nat.zero_add, true_and, and_true, and_self, zcst_0, zcst_1, zcat_ref, zcat_int, zcat_null, zcat_rf, vrf_some, vrf_none, vrf_mid, ne_eq, reduceCtorEq, not_false_eq_true, not_true_eq_false, if_true, if_false, true_implies, false_implies, Option.some.injEq, Value.int.injEq, Value.ref.injEq, Value.long.injEq, implies_true, Nat.succ_ne_self, Nat.reduceMul, zI_sI, zI_sR, zR_sI, zR_sR, zK_sI, zK_sR, zret_some, zret_none, zret_thrown, List.cons_append, List.nil_append, Option.toList, or_self, or_false, false_or, true_or, or_true, nI_add, l1, l3, ← hv, k2, hc, n1t]
    exact hQ
  rcases l4 with ⟨q, q0⟩ | ⟨q1, c, q2, q3, q4, q5⟩
  · subst q; subst q0
    refine fin (zad2 μ l 10 0 x v (fun _ => none)) (fun Q => ?_) ?_
    · exact L103g (c := 0) (c2 := 10) l1 k2 (by show 9 ≤ (zK μ e).1 ∧ (zK μ e).1 ≤ 15; rw [b.2.2.1]; decide) (by show (zK μ e).2 = 0; rw [b.2.2.1]) hls hxs (by decide) (by decide) hx l7 l8 (fun Q => L98a b1 l1 l3)
    · obtain ⟨r1, r2, r3⟩ := zad2_ok (x := x) (v := v) (w := fun _ => none) b hl (show 0 < 10 by decide) (by decide) (by decide) hx hp (fun k hk => absurd hk (Nat.not_lt_zero k))
      exact hq _ r1 r2 r3
  · by_cases hnc : n < c
    · refine fin (zad1 μ l e n x v) (fun Q => ?_) ?_
      · exact L103a l1 q2 hnc q5 hx l7 l8
      · obtain ⟨r1, r2, r3⟩ := zad1_ok (v := v) b hl l3 q2 q1 hnc q4 q5 hx hp
        exact hq _ r1 r2 r3
    · obtain rfl : n = c := by omega
      refine fin (zad2 μ l (n + n / 2) n x v (fun k => if k < n then zR μ e k else none)) (fun Q => ?_) ?_
      · refine L103g (c := n) (c2 := n + n / 2) l1 k2 (by show 9 ≤ (zK μ e).1 ∧ (zK μ e).1 ≤ 15; rw [q2]; exact ⟨by simp, by simp⟩) (by show (zK μ e).2 = n; rw [q2]) hls hxs (by omega) (by omega) hx l7 l8 (fun Q => ?_)
        exact L98b b1 l1 l3 q2 q4 (by omega) rfl (show t - 1 < 8 by omega) (fun k v9 hk hr => by
          have e9 : f k = v9 := Option.some.inj ((l5 k hk).symm.trans hr)
          have := l6 k hk
          rw [e9] at this
          exact ⟨b.lt (by rw [this]; show t ≠ 0; omega), by show zK μ v9 = _; rw [this]; exact congrArg (fun z => (z, 0)) (by omega)⟩)
      · obtain ⟨r1, r2, r3⟩ := zad2_ok (x := x) (v := v) (w := fun k => if k < n then zR μ e k else none) b hl (show n < n + n / 2 by omega) (by omega) (by omega) hx hp (fun k hk => by rw [if_pos hk]; exact l5 k hk)
        exact hq _ r1 r2 r3

