/-! ===== a new hall in the law's methods, and a run to the next one ===== -/
section PIECES
variable {b de h mi L cc ss C S y p x k : Nat} {xs : Nat → Int32} {μ : zM} {ρ : Nat → Int32} {lc : List (Option Value)} {w : zWd} {Q : zRes → zM → Prop}
theorem znewH {p0 p1 p2 p3 p4 i i2 : Nat} {kk : Fin 4} {w0 w1 w2 w3 : List Nat} (hv : zbv y [(p0, .new i, p1, 6, 6, 0, w0), (p1, .dup, p2, 0, 0, 0, w1), (p2, .invokespecial i2, p3, 15, 1, 101, w2), (p3, .astore_n kk, p4, x, 0, 0, w3)] p0 = true) (bg : zBg b de L xs cc ss μ) (hx : x < lc.length) (hq : ∀ (h : Nat) (lc' : List (Option Value)) (μ' : zM), zS1 b de h L xs zs0 0 (cc + 7) (ss + 42) μ' → lc'.length = lc.length → zld lc' x = some (.ref h) → zH de mi y p4 lc' [] μ' Q) : zH de mi y p0 lc [] μ Q := by
  refine zx_sound _ p0 lc [] μ hv ?_
  simp only [e_null, e_iconst, e_bipush, e_sipush, e_iload_n, e_iload, e_aload_n, e_aload_nN, e_aload, e_aloadN, e_istore_n, e_istore, e_astore_n, e_astore_nN, e_astore, e_astoreN, e_iinc, e_iadd, e_isub, e_imul, e_iand, e_ior, e_ishl, e_ishr, e_idiv, e_irem, e_iushr, e_ineg, e_i2l, e_lcmp, e_dup, e_dup_x1, e_dup2, e_pop, e_goto, e_if_eq, e_if_ne, e_if_lt, e_if_ge, e_if_gt, e_if_le, e_icmp_eq, e_icmp_ne, e_icmp_lt, e_icmp_ge, e_icmp_gt, e_icmp_le, e_acmp_eq, e_acmp_ne, e_ifnullN, e_ifnull, e_ifnonnull, e_ifnonnullN, e_getI, e_getR, e_putI, e_putZ, e_putR, e_putN, e_new, e_throw, e_newarray, e_anewarray, e_alen, e_iaload, e_iastore, e_aaload, e_aastore, e_aastoreN, e_cast, e_castN, e_gets, e_ldcM, e_ldcI, e_objInit, e_getC, e_mmax, e_mmin, e_mabs, e_copy, e_iret, e_zret, e_aret, e_aretN, e_ret, e_v1, e_v2, e_v3, e_v4, e_v6, e_s1, e_s3, e_s6, e_c102_0, e_c102_1, e_c102_2, e_c102_3, e_c102_4, e_c103_1, e_c104_5, e_c104_7, zld_0, zld_s, List.set_cons_succ, List.set_cons_zero, List.length_cons, List.length_nil, Nat.reduceAdd, Nat.reduceLT, Nat.reduceLeDiff, Nat.reduceEqDiff, Nat.zero_add, true_and, and_true, and_self, zcst_0, zcst_1, zcat_ref, zcat_int, zcat_null, zcat_rf, vrf_some, vrf_none, vrf_mid, ne_eq, reduceCtorEq, not_false_eq_true, not_true_eq_false, if_true, if_false, true_implies, false_implies, Option.some.injEq, Value.int.injEq, Value.ref.injEq, Value.long.injEq, implies_true, Nat.succ_ne_self, Nat.reduceMul, zI_sI, zI_sR, zR_sI, zR_sR, zK_sI, zK_sR, zret_some, zret_none, zret_thrown, List.cons_append, List.nil_append, Option.toList, or_self, or_false, false_or, true_or, or_true, nI_add, Nat.zero_le, Nat.reduceLeDiff]
  refine bg.new rfl (fun μ1 s1 => ?_)
  simp only [zret_none, zx_nil, e_null, e_iconst, e_bipush, e_sipush, e_iload_n, e_iload, e_aload_n, e_aload_nN, e_aload, e_aloadN, e_istore_n, e_istore, e_astore_n, e_astore_nN, e_astore, e_astoreN, e_iinc, e_iadd, e_isub, e_imul, e_iand, e_ior, e_ishl, e_ishr, e_idiv, e_irem, e_iushr, e_ineg, e_i2l, e_lcmp, e_dup, e_dup_x1, e_dup2, e_pop, e_goto, e_if_eq, e_if_ne, e_if_lt, e_if_ge, e_if_gt, e_if_le, e_icmp_eq, e_icmp_ne, e_icmp_lt, e_icmp_ge, e_icmp_gt, e_icmp_le, e_acmp_eq, e_acmp_ne, e_ifnullN, e_ifnull, e_ifnonnull, e_ifnonnullN, e_getI, e_getR, e_putI, e_putZ, e_putR, e_putN, e_new, e_throw, e_newarray, e_anewarray, e_alen, e_iaload, e_iastore, e_aaload, e_aastore, e_aastoreN, e_cast, e_castN, e_gets, e_ldcM, e_ldcI, e_objInit, e_getC, e_mmax, e_mmin, e_mabs, e_copy, e_iret, e_zret, e_aret, e_aretN, e_ret, e_v1, e_v2, e_v3, e_v4, e_v6, e_s1, e_s3, e_s6, e_c102_0, e_c102_1, e_c102_2, e_c102_3, e_c102_4, e_c103_1, e_c104_5, e_c104_7, zld_0, zld_s, List.set_cons_succ, List.set_cons_zero, List.length_cons, List.length_nil, Nat.reduceAdd, Nat.reduceLT, Nat.reduceLeDiff, Nat.reduceEqDiff, Nat.zero_add, true_and, and_true, and_self, zcst_0, zcst_1, zcat_ref, zcat_int, zcat_null, zcat_rf, vrf_some, vrf_none, vrf_mid, ne_eq, reduceCtorEq, not_false_eq_true, not_true_eq_false, if_true, if_false, true_implies, false_implies, Option.some.injEq, Value.int.injEq, Value.ref.injEq, Value.long.injEq, implies_true, Nat.succ_ne_self, Nat.reduceMul, zI_sI, zI_sR, zR_sI, zR_sR, zK_sI, zK_sR, zret_some, zret_none, zret_thrown, List.cons_append, List.nil_append, Option.toList, or_self, or_false, false_or, true_or, or_true, nI_add, hx]
  refine hq (zS μ) _ μ1 s1 (by rw [List.length_set]) ?_
  unfold zld
  rw [List.getElem?_set_self hx]
theorem zlm1 (hl : lc.length = k) (hd : zld lc x = some (.ref h)) : zlm h ρ ((List.replicate k none).set x (some (.inr 0))) lc := by
  refine ⟨by rw [List.length_set, List.length_replicate, hl], fun i v e => ?_⟩
  unfold zlk9 at e
  by_cases q : i = x
  · subst q
    by_cases g : i < k
    · rw [List.getElem?_set_self (by simpa using g)] at e
      cases e
      exact hd
    · rw [List.getElem?_eq_none (by simp; omega)] at e
      cases e
  · rw [List.getElem?_set_ne (Ne.symm q)] at e
    by_cases g : i < k
    · rw [List.getElem?_replicate, if_pos g] at e
      cases e
    · rw [List.getElem?_replicate, if_neg g] at e
      cases e
/-- the run from place p on comes to what is told, with no more than C cells and S slots used -/
noncomputable def zrunT (y p : Nat) (ls : List (Option zV9)) (w : zWd) (t : zV9) (C S : Nat) : Bool := match zlgo (zM2 zm0) (zbody y) 4000 (zsuf (zbody y) p, ls, [], w) with
  | none => false
  | some (.inl c, w') => (match t with
    | .inl d => decide (c = d)
    | .inr _ => false) && (Nat.ble w'.2.2.1 C && Nat.ble w'.2.2.2 S)
  | some (.inr q, w') => (match t with
    | .inl _ => false
    | .inr d => Nat.beq q d) && (Nat.ble w'.2.2.1 C && Nat.ble w'.2.2.2 S)
theorem zBg.up {cc' ss' : Nat} (g : zBg b de L xs cc ss μ) (hc : cc ≤ cc') (hs : ss ≤ ss') : zBg b de L xs cc' ss' μ := by
  obtain ⟨g1, g2, g3, g4, g5, g6, g7, g8, g9, g10⟩ := g
  exact ⟨g1, g2, g3, g4, g5, g6, g7, g8, Nat.le_trans g9 hc, Nat.le_trans g10 hs⟩
theorem zRl.bgu {w' : zWd} (R : zRl b de h L xs w' μ) (hc : Nat.ble w'.2.2.1 C = true) (hs : Nat.ble w'.2.2.2 S = true) : zBg b de L xs C S μ := R.2.bg.up (Nat.le_of_ble_eq_true hc) (Nat.le_of_ble_eq_true hs)
theorem zrun_r {ls : List (Option zV9)} {d : Int32} (hB : zcont (zbody y) = true) (e : zrunT y p ls w (.inl d) C S = true) (m : zlm h ρ ls lc) (R : zRl b de h L xs w μ) (hq : ∀ μ', zBg b de L xs C S μ' → Q (.inl (some (.int d))) μ') : zH de mi y p lc [] μ Q := by
  unfold zrunT at e
  cases hr : zlgo (zM2 zm0) (zbody y) 4000 (zsuf (zbody y) p, ls, [], w) with
  | none => rw [hr] at e; cases e
  | some q =>
    rw [hr] at e
    obtain ⟨a, w'⟩ := q
    cases hs : zsuf (zbody y) p with
    | nil => rw [hs, zlgo_nil] at hr; cases hr
    | cons o L1 =>
      rw [hs] at hr
      obtain ⟨g1, g2⟩ := zsuf_ok _ _ _ _ hs
      rcases a with c | j
      · simp only [Bool.and_eq_true, decide_eq_true_eq] at e
        obtain ⟨e1, e2, e3⟩ := e
        have k := zlgo_ok (Rel := zRl b de h L xs) (ρ := ρ) (de := de) (mi := mi) (Q := Q) (k := lc.length) (zM2_ok (fun w y as r w' μ Q e R hq => zm0_ok R e hq) (fun w μ R => R.2.kh)) (fun w μ R => R.2.kh) hB (a := .inl c) (w' := w') (fun c1 ec μ' R' => by cases ec; rw [e1]; exact hq μ' (R'.bgu e2 e3)) (fun p ep => by cases ep) 4000 _ ls [] w hr g2 o L1 rfl lc μ m R rfl
        rw [g1] at k
        exact k
      · simp only [Bool.false_and] at e
        cases e
theorem zrun_n {ls : List (Option zV9)} {d : Nat} (hB : zcont (zbody y) = true) (e : zrunT y p ls w (.inr d) C S = true) (m : zlm h ρ ls lc) (R : zRl b de h L xs w μ) (hq : ∀ (lc' : List (Option Value)) (μ' : zM), lc'.length = lc.length → zBg b de L xs C S μ' → zH de mi y d lc' [] μ' Q) : zH de mi y p lc [] μ Q := by
  unfold zrunT at e
  cases hr : zlgo (zM2 zm0) (zbody y) 4000 (zsuf (zbody y) p, ls, [], w) with
  | none => rw [hr] at e; cases e
  | some q =>
    rw [hr] at e
    obtain ⟨a, w'⟩ := q
    cases hs : zsuf (zbody y) p with
    | nil => rw [hs, zlgo_nil] at hr; cases hr
    | cons o L1 =>
      rw [hs] at hr
      obtain ⟨g1, g2⟩ := zsuf_ok _ _ _ _ hs
      rcases a with c | j
      · simp only [Bool.false_and] at e
        cases e
      · simp only [Bool.and_eq_true] at e
        obtain ⟨e1, e2, e3⟩ := e
        have e4 : j = d := Nat.eq_of_beq_eq_true e1
        have k := zlgo_ok (Rel := zRl b de h L xs) (ρ := ρ) (de := de) (mi := mi) (Q := Q) (k := lc.length) (zM2_ok (fun w y as r w' μ Q e R hq => zm0_ok R e hq) (fun w μ R => R.2.kh)) (fun w μ R => R.2.kh) hB (a := .inr j) (w' := w') (fun c1 ec => by cases ec) (fun p1 ep lc' μ' hl R' => by cases ep; rw [e4]; exact hq lc' μ' hl (R'.bgu e2 e3)) 4000 _ ls [] w hr g2 o L1 rfl lc μ m R rfl
        rw [g1] at k
        exact k
theorem zRl0 (s : zS1 b de h L xs zs0 0 cc ss μ) : zRl b de h L xs (zT0, 0, cc, ss) μ := by
  refine ⟨zT0_ok.1, ?_⟩
  show zS1 b de h L xs (zD zT0) 0 cc ss μ
  rw [zT0_ok.2]; exact s
end PIECES
theorem zc75 : zcont (zbody 75) = true := by decide +kernel
theorem zc76 : zcont (zbody 76) = true := by decide +kernel
theorem zc77 : zcont (zbody 77) = true := by decide +kernel
