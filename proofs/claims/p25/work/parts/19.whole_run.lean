/-! ===== the run is the machine's: the induction ===== -/
/-- the words of a constructor's throw, at any state behind the law's start -/
theorem zwordAt {U0 s : State} {a0 args : Array Value} (hW : U0.WarmedH s.vm) {own X : String} {ic : Nat} {names : List String} {w : Cond} (hm : w ∈ vx_atS own ic X names) (hot : vx_ot w = true) (h : w.before a0 U0 = true) : w.before args s = true := by
  have hf : w.keepsFace = true := Bundle.ownAtoms_keepsFace w (List.mem_filter.mp hm).1
  simp only [vx_ot, Bool.or_eq_true] at hot
  rcases hot with hg | hg
  · exact va_tabs hg (rfl : (U0.setVm s.vm).vm = s.vm) (Cond.before_shiftedFace (State.Shifted.of_warmed hW) w hf h)
  · exact word_at hW (good_of_word hg) h
theorem zZq {B0 : Nat} {U0 s : State} {C n d : String} (hW0 : U0.WarmedH s.vm) (hU : B0 = U0.heap.size) (hs0 : ∀ q, q < B0 → s.heap[q]? = U0.heap[q]?) (h : vx_Zq C n d (fun q => B0 ≤ q) U0 U0.heap) : vx_Zq C n d (fun q => B0 ≤ q) s s.heap :=
  (vx_Zq.moved hW0.alike h).kept (fun a h1 h2 => hs0 a (Nat.lt_of_not_le h2))
set_option maxHeartbeats 1000000 in
theorem zrn_sound {D : va_G} {T : Nat → ClassId} {B0 de mi : Nat} {U0 : State} {l : Launch} (hE : zEnv D T B0 de mi U0 l) (hX : zEnvX U0) : ∀ (f y pc : Nat) (ls : List (Option Value)) (st : List Value) (μ : zM) (r : zRes) (μ' : zM), zrn zcode zX zHd de mi f y pc ls st μ = some (r, μ') →
    ∀ (p : Program) (e : Env) (R : Room) (s : State) (m : MethodId) (args : Array Value) (below : List Frame) (meth : Method) (cc : Code) (c0 l0 : Nat) (H : Heap) (locs : List Loc) (lsA : Array Slot),
      zCtx D T B0 de mi U0 y p l R s m args meth cc → zC μ' - c0 ≤ R.cells → zL μ' - l0 ≤ R.slots → c0 ≤ zC μ → l0 ≤ zL μ → zHp D T B0 U0 μ H → zlv lsA (zX y) ls → (∀ z ∈ locs, B0 ≤ z.base) →
      W p l e R s m args below meth cc H locs (zC μ - c0) (zL μ - l0) (vx_MQ below (zQc D T B0 U0 r μ') (zXc D T B0 U0 r μ') args s (zC μ' - c0) (zL μ' - l0) (fun q => B0 ≤ q)) (F0 m pc lsA st) := by
  intro f
  induction f with
  | zero => intro y pc ls st μ r μ' h; simp [zrn] at h
  | succ f ih =>
    intro y pc ls st μ r μ' h p e R s m args below meth cc c0 l0 H locs lsA hC hRc hRs hc0 hl0 hH hL hlo
    have hmono := zrn_mono _ _ _ _ _ _ _ _ h
    simp only [zrn] at h
    split at h
    · cases h
    · next o ho =>
      obtain ⟨hO, hpc⟩ := zcode_ok ho
      have hy := zcode_lt ho
      obtain ⟨hx, hb, hown, hwd, hml, hlk, hrt, hfr, hlc, hW0, hs0, hsz, hin, htb⟩ := id hC
      split at h
      · -- an end
        split at h
        · next r0 hr0 =>
          cases h
          subst hpc
          refine vx_ret ?_
          obtain ⟨pc, i, n, x, v, z, ws⟩ := o
          cases i
          case ireturn =>
            simp only [zok, Bool.and_eq_true, decide_eq_true_eq] at hO
            obtain ⟨hd, -, hn, hO⟩ := hO
            subst hn
            simp only [zfin] at hr0
            split at hr0
            · next w =>
              by_cases hz : z = 2
              · rw [if_pos hz] at hr0 hO
                split at hr0
                · next hw =>
                  cases hr0
                  exact W.zret hx hb (hrt.trans (of_decide_eq_true hO)) (znar_bool hw).1 (fun t ht _ => ⟨_, rfl, rfl, by rw [ht]; exact hH⟩) hlo (zdec hd) hlk
                · cases hr0
              · rw [if_neg hz] at hr0 hO
                cases hr0
                exact W.iret hx hb (hrt.trans (of_decide_eq_true hO)) (fun t ht _ => ⟨_, rfl, rfl, by rw [ht]; exact hH⟩) hlo (zdec hd) hlk
            · cases hr0
          case areturn =>
            simp only [zok, Bool.and_eq_true, decide_eq_true_eq] at hO
            obtain ⟨hd, -, hn, hO⟩ := hO
            subst hn
            cases hty : zRt y with
            | none => rw [hty] at hO; cases hO
            | some ty =>
              rw [hty] at hO
              have hrt' : (∃ n, ty = .object n) ∨ ∃ t, ty = .array t := by
                cases ty <;> first | (cases hO; done) | exact Or.inl ⟨_, rfl⟩ | exact Or.inr ⟨_, rfl⟩
              simp only [zfin] at hr0
              split at hr0
              · cases hr0
                exact W.aret hx hb (hrt.trans hty) hrt' (Or.inr ⟨_, rfl⟩) (fun t ht _ => ⟨_, rfl, rfl, by rw [ht]; exact hH⟩) hlo (zdec hd) hlk
              · cases hr0
                exact W.aret hx hb (hrt.trans hty) hrt' (Or.inl rfl) (fun t ht _ => ⟨_, rfl, rfl, by rw [ht]; exact hH⟩) hlo (zdec hd) hlk
              · cases hr0
          case return_ =>
            simp only [zok, Bool.and_eq_true, decide_eq_true_eq] at hO
            obtain ⟨hd, -, hn, hO⟩ := hO
            subst hn
            simp only [zfin] at hr0
            split at hr0
            · cases hr0
              exact W.vret hx hb (hrt.trans hO) (fun t ht _ => ⟨_, rfl, rfl, by rw [ht]; exact hH⟩) hlo (zdec hd) hlk
            · cases hr0
          all_goals (simp [zfin] at hr0)
        · cases h
      · next hs1 =>
        split at h
        · -- a throw
          next hs3 =>
          split at h
          rotate_left
          · cases h
          next hst4 =>
          cases h
          subst hpc
          have hth := List.all_eq_true.mp (zthrow_lt y hy) o (List.mem_of_find?_eq_some ho)
          obtain ⟨pc, i, n, x, v, z, ws⟩ := o
          cases i
          case new i =>
            have hz : z = 9 := by
              by_cases h9 : z = 9
              · exact h9
              · simp [zsort, h9] at hs3
            subst hz
            simp only [zok, Bool.and_eq_true, decide_eq_true_eq, if_pos] at hO
            obtain ⟨hd, -, hn, d3, d4, d6, d9, w1, w2, ⟨htx, hf6⟩, hl90⟩ := hO
            subst hn
            simp only [zthrow, if_pos, Bool.and_eq_true, decide_eq_true_eq, List.all_eq_true] at hth
            obtain ⟨hx3, hstr, hat⟩ := hth
            obtain ⟨a0, ha0⟩ := hE.2.2.1
            obtain ⟨tx, htx9⟩ : ∃ tx, Cond.stringRef (zOwn y) v tx ∈ lw_tbl := by
              split at hstr
              · next w k tx hw =>
                simp only [Bool.and_eq_true, decide_eq_true_eq] at hstr
                refine ⟨tx, ?_⟩
                have := List.mem_of_getElem? hw
                rw [hstr.1, hstr.2] at this
                exact this
              · cases hstr
            obtain ⟨sa, hsa⟩ := hX.1 _ _ _ htx9
            have e1 : zC (znew μ 0 0 6) = zC μ + 1 := rfl
            have e2 : zL (znew μ 0 0 6) = zL μ + 6 := rfl
            have hatw : ∀ w ∈ vx_atS (zOwn y) (zgi ws 0) (zEx x) ["java/lang/RuntimeException", "java/lang/Exception"], w.before args s = true := fun w hw => zwordAt hW0 hw (hat w hw).2 (ha0 w (hat w hw).1)
            have g1 := (List.mem_filter.mp (zhas_in w1)).2
            have g2 := (List.mem_filter.mp (zhas_in w2)).2
            intro T9 hT9 X9
            have hsize : s.heap.size ≤ H.size := by
              have h9 : s.heap.size ≤ T9.heap.size := X9.same.2.1
              rwa [hT9] at h9
            have hsum4 := zsum hst4
            refine (zthrowS (own := zOwn y) (cls := zEx x) (text := tx) (names := ["java/lang/RuntimeException", "java/lang/Exception"]) (ik := i) (is := v) (ic := zgi ws 0) (sa := sa) (A := fun q => B0 ≤ q) hx hb hE.2.2.2.2.1 hown ?_ (by decide +kernel) (hwd _ (zhas_in w1)) (hwd _ (zhas_in w2)) (vk_R.warm hW0 hsa) hatw ?_
              (zZq hW0 hE.2.1 hs0 hE.2.2.2.2.2.1) (zZq hW0 hE.2.1 hs0 hE.2.2.2.2.2.2.1) ?_ (by rw [hml]; exact hL.1) (zdec hd) d3 d4 d6 d9 (fun z hz => ?_) ?_ ?_ (by omega) (by omega) hlk (fun t hal hz9 hq9 => ?_) hlo (by omega) (by omega)) T9 hT9 X9
            · rcases (show x = 0 ∨ x = 1 ∨ x = 2 by omega) with rfl | rfl | rfl <;> decide +kernel
            · intro w hw
              rcases List.mem_cons.mp hw with rfl | hw
              · simp only [vx_ot, g1, Bool.or_true]
              · rcases List.mem_cons.mp hw with rfl | hw
                · simp only [vx_ot, g2, Bool.or_true]
                · exact (hat w hw).2
            · refine ⟨?_, fun q hq hA => ?_, hlo⟩
              · exact hsize
              · have hlt : q < B0 := Nat.lt_of_not_le hA
                rw [hH.2.2.1 q hlt, hs0 q hlt]
            · rw [htb, htx] at hz
              cases hz
            · show 2 + 3 < R.frames
              omega
            · show _ + (13 * (2 + 1) + 43) ≤ R.locals
              omega
            · exact ⟨x, hx3, rfl, rfl, zHp_new hH hz9 hq9 (by decide) (fun h9 => by omega)⟩
          all_goals first | (simp [zsort] at hs3; done) | (simp only [zsort] at hs3; split at hs3 <;> cases hs3)
        · next hs3 =>
          split at h
          · -- a call
            next hs2 =>
            split at h
            · cases h
            · next as rest ha =>
              obtain ⟨-, hlen, -, hcat, -⟩ := zargs_ok ha
              have hvx : o.2.2.2.2.1 ≤ zX o.2.2.2.1 := by
                obtain ⟨pc, i, n, x, v, z, ws⟩ := o
                cases i
                case invokevirtual i =>
                  have hz : z = 100 := by
                    by_cases h9 : z = 100
                    · exact h9
                    · simp [zsort, h9] at hs2
                  simp only [zok, Bool.and_eq_true, decide_eq_true_eq, if_pos hz] at hO
                  exact hO.2.2.2.2.2.2.2.2.2.2.2.2.2.2.1
                case invokespecial i =>
                  have hz : z = 101 := by
                    by_cases h9 : z = 101
                    · exact h9
                    · simp [zsort, h9] at hs2
                  simp only [zok, Bool.and_eq_true, decide_eq_true_eq, if_pos hz] at hO
                  exact hO.2.2.2.2.2.2.2.2.2.2.2.2.2.1
                case invokestatic i =>
                  have hz : z = 102 ∨ z = 103 ∨ z = 104 := by
                    by_cases h9 : z = 102 ∨ z = 103 ∨ z = 104
                    · exact h9
                    · simp [zsort, h9] at hs2
                  simp only [zok, Bool.and_eq_true, decide_eq_true_eq, if_pos hz] at hO
                  exact hO.2.2.2.2.2.2.2.2.2.1
                all_goals first | (simp [zsort] at hs2; done) | (simp only [zsort] at hs2; split at hs2 <;> cases hs2)
              have hmeet : ∀ (r1 : zRes) (μ1 : zM), zrn zcode zX zHd de mi f o.2.2.2.1 0 (zent (zX o.2.2.2.1) as) [] μ = some (r1, μ1) → zMet D T B0 U0 l o.2.2.2.1 as μ r1 μ1 := by
                intro r1 μ1 h1
                have hx79 : o.2.2.2.1 < 79 := by
                  cases f with
                  | zero => simp [zrn] at h1
                  | succ f =>
                    simp only [zrn] at h1
                    split at h1
                    · cases h1
                    · next o9 ho9 => exact zcode_lt ho9
                refine zmeet hx79 hcat (by omega) hE (fun p2 e2 R2 s2 m2 args2 below2 meth2 cc2 lsA2 hC2 hR2 hR3 hH2 hL2 => ?_)
                have k := ih _ _ _ _ _ _ _ h1 p2 e2 R2 s2 m2 args2 below2 meth2 cc2 (zC μ) (zL μ) s2.heap [] lsA2 hC2 (Nat.le_of_eq hR2.symm) (Nat.le_of_eq hR3.symm) (Nat.le_refl _) (Nat.le_refl _) hH2 hL2 (fun _ h9 => nomatch h9)
                rw [Nat.sub_self, Nat.sub_self] at k
                exact k
              split at h
              · cases h
              · next v μ1 h1 =>
                have m1 := zrn_mono _ _ _ _ _ _ _ _ h1
                have m2 := zrn_mono _ _ _ _ _ _ _ _ h
                subst hpc
                obtain ⟨hn3, hrun⟩ := zcall (e := e) (below := below) (locs := locs) (cells := zC μ - c0) (slots := zL μ - l0) hE hC hO hs2 ha hH hL.1 (hmeet _ _ h1) (by omega) (by omega)
                intro T9 hT9 X9
                rcases hrun T9 hT9 X9 with ⟨v9, st₀, t, T', L, h0, X', hLf, e1, e2, ⟨v8, hv8, hv9, hH8⟩, stp⟩ | ⟨q, st₀, t, T', L, E, ce, h0, X', hLf, e1, e2, ⟨k9, hk9, hr9, -⟩, -⟩
                · cases hv8
                  cases hv9
                  have hH' : zHp D T B0 U0 μ1 T'.heap := by rw [e1]; exact hH8
                  have k := ih _ _ _ _ _ _ _ h p e R s m args below meth cc c0 l0 T'.heap (locs ++ L) lsA hC hRc hRs (by omega) (by omega) hH' hL (fun z hz => (List.mem_append.mp hz).elim (hlo z) (hLf z))
                  have q1 : zC μ - c0 + (zC μ1 - zC μ) = zC μ1 - c0 := by omega
                  have q2 : zL μ - l0 + (zL μ1 - zL μ) = zL μ1 - l0 := by omega
                  rw [q1, q2] at X'
                  rw [hn3] at k
                  obtain ⟨t2, a1, b1⟩ := k T' rfl X'
                  exact ⟨t2, stp t2 a1, b1⟩
                · cases hr9
              · next E μ1 h1 =>
                have m1 := zrn_mono _ _ _ _ _ _ _ _ h1
                subst hpc
                have hle : zC μ1 ≤ zC μ' ∧ zL μ1 ≤ zL μ' := by
                  split at h
                  · cases h; exact ⟨Nat.le_refl _, Nat.le_refl _⟩
                  · split at h
                    · cases h
                    · split at h
                      · exact zrn_mono _ _ _ _ _ _ _ _ h
                      · cases h
                obtain ⟨hn3, hrun⟩ := zcall (e := e) (below := below) (locs := locs) (cells := zC μ - c0) (slots := zL μ - l0) hE hC hO hs2 ha hH hL.1 (hmeet _ _ h1) (by omega) (by omega)
                intro T9 hT9 X9
                rcases hrun T9 hT9 X9 with ⟨v9, st₀, t, T', L, h0, X', hLf, e1, e2, ⟨v8, hv8, hv9, hH8⟩, stp⟩ | ⟨q, st₀, t, T', L, E9, ce, h0, X', hLf, e1, e2, ⟨k9, hk9, hr9, hE9, hH8⟩, hce, hcv, hcl, stp⟩
                · cases hv8
                · cases hr9
                  subst hE9
                  have hH' : zHp D T B0 U0 μ1 T'.heap := by rw [e1]; exact hH8
                  have hce' : T'.heap[q]? = some ce := by rw [e1]; exact hce
                  have hlo' : ∀ z ∈ locs ++ L, B0 ≤ z.base := fun z hz => (List.mem_append.mp hz).elim (hlo z) (hLf z)
                  have q1 : zC μ - c0 + (zC μ1 - zC μ) = zC μ1 - c0 := by omega
                  have q2 : zL μ - l0 + (zL μ1 - zL μ) = zL μ1 - l0 := by omega
                  rw [q1, q2] at X'
                  suffices hw : vx_W p l e R s m args below meth cc T'.heap (locs ++ L) (zC μ1 - c0) (zL μ1 - l0) (vx_MQ below (zQc D T B0 U0 r μ') (zXc D T B0 U0 r μ') args s (zC μ' - c0) (zL μ' - l0) (fun q => B0 ≤ q)) (F0 m o.1 lsA rest) q by
                    obtain ⟨t2, a1, b1⟩ := hw T' rfl X'
                    exact ⟨t2, stp.trans a1, b1⟩
                  split at h
                  · next hf =>
                    cases h
                    refine vx_outP hown hlk (E := zEx E) (fun z hz => ?_) hce' hcv hcl (fun t9 ht9 _ => ⟨E, hk9, rfl, rfl, by rw [ht9]; exact hH'⟩) hlo' (Nat.le_refl _) (Nat.le_refl _)
                    rw [htb] at hz
                    obtain ⟨i, hi⟩ := List.getElem?_of_mem hz
                    have hi2 : (zTb y)[i]? ≠ none := by
                      intro h9
                      unfold tableOf at hi
                      rw [List.getElem?_map, h9] at hi
                      cases hi
                    obtain ⟨q0, hq0⟩ := Option.ne_none_iff_exists'.mp hi2
                    obtain ⟨e0, he0⟩ := zrow' hy hq0
                    exact zpass hy hX hW0 hwd hk9 he0 (zfind_none _ _ _ hf _ _ he0) hi
                  · next hh hf =>
                    obtain ⟨i, q0, g1, g2, g3, g4, g5, g6⟩ := zfind_some _ _ _ _ hf
                    obtain ⟨ct, r1, r2, r3, r4⟩ := zrow hy g1
                    have hrow : (tableOf (zTb y))[i]? = some ⟨q0.1, q0.2.1, q0.2.2.1, ct⟩ := by
                      unfold tableOf
                      rw [List.getElem?_map, r1]
                      rfl
                    have hil := (List.getElem?_eq_some_iff.mp hrow).1
                    have hsplit : cc.exceptionTable.toList = (tableOf (zTb y)).take i ++ ⟨q0.1, q0.2.1, q0.2.2.1, ct⟩ :: (tableOf (zTb y)).drop (i + 1) := by
                      rw [htb]
                      have h9 := (List.getElem?_eq_some_iff.mp hrow).2
                      have h8 := List.drop_eq_getElem_cons hil
                      rw [h9] at h8
                      rw [← h8, List.take_append_drop]
                    obtain ⟨a0, ha0⟩ := hE.2.2.1
                    have hcast : (Cond.castable (zEx E) (zEx q0.2.2.2)).before args s = true := by
                      rw [g4]
                      exact va_Nw.use rfl (va_Nw.warmC hW0 (va_Nw.of rfl (ha0 _ (zEx_castable E hk9))))
                    refine vx_catch (name := zEx q0.2.2.2) hown ((tableOf (zTb y)).take i) ⟨q0.1, q0.2.1, q0.2.2.1, ct⟩ ((tableOf (zTb y)).drop (i + 1)) hsplit (fun z hz => ?_) ?_ r2 (hwd _ (zhas_in r4)) hcast hce' hcv hcl ?_
                    · obtain ⟨j, hj⟩ := List.getElem?_of_mem hz
                      have hji : j < i := by
                        have := (List.getElem?_eq_some_iff.mp hj).1
                        rw [List.length_take] at this
                        omega
                      rw [List.getElem?_take_of_lt hji] at hj
                      have hi2 : (zTb y)[j]? ≠ none := by
                        intro h9
                        unfold tableOf at hj
                        rw [List.getElem?_map, h9] at hj
                        cases hj
                      obtain ⟨q1, hq1⟩ := Option.ne_none_iff_exists'.mp hi2
                      obtain ⟨e0, he0⟩ := zrow' hy hq1
                      exact zpass hy hX hW0 hwd hk9 he0 (g6 j _ hji he0) hj
                    · simp only [covers, Bool.and_eq_true, decide_eq_true_eq]
                      exact ⟨g2, g3⟩
                    · split at h
                      · cases h
                      · next n9 x9 hgo =>
                        split at h
                        · next hx9 =>
                          have hgo' : W p l e R s m args below meth cc T'.heap (locs ++ L) (zC μ1 - c0) (zL μ1 - l0) (vx_MQ below (zQc D T B0 U0 r μ') (zXc D T B0 U0 r μ') args s (zC μ' - c0) (zL μ' - l0) (fun q => B0 ≤ q)) (F0 m hh lsA [.ref q]) := by
                            unfold zgo at hgo
                            split at hgo
                            · next pc2 k2 n2 x2 rest2 hc2 =>
                              cases hgo
                              obtain ⟨hO2, hp2⟩ := zcode_ok hc2
                              obtain ⟨v2, z2, ws2⟩ := rest2
                              simp only [zok, Bool.and_eq_true, decide_eq_true_eq] at hO2
                              obtain ⟨hd2, -, hi2, hn2⟩ := hO2
                              simp only at hp2
                              subst hp2
                              subst hn2
                              subst hi2
                              refine lv_astore_n hx hb (zdec hd2) rfl (zlv_has hL) (by rw [← hL.2.2.1]; exact hx9) rfl (fun ls' h' => ?_)
                              exact ih _ _ _ _ _ _ _ h p e R s m args below meth cc c0 l0 T'.heap (locs ++ L) ls' hC hRc hRs (by omega) (by omega) hH' (zlv_setN (zlv_set hL rfl hx9 h')) hlo'
                            · next pc2 k2 n2 x2 rest2 hc2 =>
                              cases hgo
                              obtain ⟨hO2, hp2⟩ := zcode_ok hc2
                              obtain ⟨v2, z2, ws2⟩ := rest2
                              simp only [zok, Bool.and_eq_true, decide_eq_true_eq] at hO2
                              obtain ⟨hd2, -, hi2, hn2⟩ := hO2
                              simp only at hp2
                              subst hp2
                              subst hn2
                              subst hi2
                              refine lv_astore hx hb (zdec hd2) (zlv_has hL) (by rw [← hL.2.2.1]; exact hx9) rfl (fun ls' h' => ?_)
                              exact ih _ _ _ _ _ _ _ h p e R s m args below meth cc c0 l0 T'.heap (locs ++ L) ls' hC hRc hRs (by omega) (by omega) hH' (zlv_setN (zlv_set hL rfl hx9 h')) hlo'
                            · cases hgo
                          rw [← g5] at hgo'
                          exact hgo'
                        · cases h
          · next hs2 =>
            split at h
            · cases h
            · next c hc =>
              have hs0' : zsort o = 0 := by
                have : ∀ o : zOp, zsort o = 0 ∨ zsort o = 1 ∨ zsort o = 2 ∨ zsort o = 3 := fun o => by
                  unfold zsort
                  split <;> first | (split <;> simp) | simp
                rcases this o with q | q | q | q
                · exact q
                · exact absurd q hs1
                · exact absurd q hs2
                · exact absurd q hs3
              have m1 := zstep_mono hc
              have m2 := zrn_mono _ _ _ _ _ _ _ _ h
              subst hpc
              refine zgoal_all hO hs0' p l e R s m args below meth cc hE hC ls st μ c hc H locs lsA _ _ _ hH hL hlo (by omega) (by omega) (fun H' locs' lsA' hH' hL' hlo' => ?_)
              have k := ih _ _ _ _ _ _ _ h p e R s m args below meth cc c0 l0 H' locs' lsA' hC hRc hRs (by omega) (by omega) hH' hL' hlo'
              have q1 : zC μ - c0 + (zC c.2.2.2 - zC μ) = zC c.2.2.2 - c0 := by omega
              have q2 : zL μ - l0 + (zL c.2.2.2 - zL μ) = zL c.2.2.2 - l0 := by omega
              rw [q1, q2]
              exact k
