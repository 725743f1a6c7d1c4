/-! ===== soundness: new arrays, casts, statics, the members that are rows of the kit ===== -/
theorem zsum {r : List Value} (h : r.length ≤ 4) : (r.map fun v => v.category).sum ≤ 8 := by
  have key : ∀ l : List Value, (l.map fun v => v.category).sum ≤ 2 * l.length := by
    intro l
    induction l with
    | nil => simp
    | cons v t ih =>
      rw [List.map_cons, List.sum_cons, List.length_cons]
      have := lv_cat v
      omega
  have := key r
  omega
theorem zs_newarray {D : va_G} {T : Nat → ClassId} {B0 de mi : Nat} {U0 : State} {y pc n x v z : Nat} {t : ArrayType} {ws : List Nat} (hO : zok y (pc, (.newarray t), n, x, v, z, ws) = true) : zGoal D T B0 de mi U0 y (pc, (.newarray t), n, x, v, z, ws) := by
  intro p l e R s m args below meth cc hE hC ls st μ c h H locs lsA cells slots Q hH hL hlo hc1 hc2 k
  obtain ⟨hx, hb, hown, hwd, hml, hlk, hrt, hfr, hlc, hW0, hs0, hsz, hin, htb⟩ := hC
  simp only [zok, Bool.and_eq_true, Bool.or_eq_true, decide_eq_true_eq] at hO
  obtain ⟨hd, -, hn, hO⟩ := hO
  subst hn
  have hK := va_K.moved hW0.alike hE.1
  simp only [zstep] at h
  split at h
  · next w r =>
    split at h
    · next hk =>
      cases h
      have e1 : zC (znew μ x w.toNatClampNeg w.toNatClampNeg) - zC μ = 1 := by rw [zC_new]; omega
      have e2 : zL (znew μ x w.toNatClampNeg w.toNatClampNeg) - zL μ = w.toNatClampNeg := by rw [zL_new]; omega
      simp only [e1, e2] at k hc1 hc2
      have hkn : zK (znew μ x w.toNatClampNeg w.toNatClampNeg) (zS μ) = (x, w.toNatClampNeg) := by rw [zK_new, if_pos rfl]
      have hI0 : zI (znew μ x w.toNatClampNeg w.toNatClampNeg) (zS μ) = fun _ => 0 := by funext j; rw [zI_new, if_pos rfl]
      have hJ0 : zJ (znew μ x w.toNatClampNeg w.toNatClampNeg) (zS μ) = fun _ => 0 := by funext j; rw [zJ_new, if_pos rfl]
      obtain ⟨⟨hx9, ht⟩, hw⟩ := hO
      subst hx9; subst ht
      refine va_newaK hx hb (hwd _ (zhas_in hw)) rfl (zdec hd) rfl hk.1 rfl (by show w.toNatClampNeg * 4 ≤ _; omega) hc1 hc2 hH.2.1 fun H1 cA f1 z1 o1 hAr hNm => ?_
      refine k H1 locs lsA (zHp_new hH (by rw [z1, hH.2.1]) (by rw [hH.2.1]; exact o1) (by decide) (fun _ => ?_)) hL hlo
      have hcA : cA = T 0 := Option.some.inj (hNm.symm.trans (va_nm_int (hK.2 0 _ rfl).2))
      rw [zE9 (by rw [hkn]), hkn, hI0]
      show H1[zS μ]? = some (vp_cell _ _)
      rw [f1, hcA]
      rfl
    · cases h
  · cases h
theorem zs_anewarray {D : va_G} {T : Nat → ClassId} {B0 de mi : Nat} {U0 : State} {y pc n x v z i : Nat} {ws : List Nat} (hO : zok y (pc, (.anewarray i), n, x, v, z, ws) = true) : zGoal D T B0 de mi U0 y (pc, (.anewarray i), n, x, v, z, ws) := by
  intro p l e R s m args below meth cc hE hC ls st μ c h H locs lsA cells slots Q hH hL hlo hc1 hc2 k
  obtain ⟨hx, hb, hown, hwd, hml, hlk, hrt, hfr, hlc, hW0, hs0, hsz, hin, htb⟩ := hC
  simp only [zok, Bool.and_eq_true, Bool.or_eq_true, decide_eq_true_eq] at hO
  obtain ⟨hd, -, hn, hO⟩ := hO
  subst hn
  have hK := va_K.moved hW0.alike hE.1
  obtain ⟨a0, ha0⟩ := hE.2.2.1
  simp only [zstep] at h
  split at h
  · next w r =>
    split at h
    · next hk =>
      cases h
      have e1 : zC (znew μ x w.toNatClampNeg w.toNatClampNeg) - zC μ = 1 := by rw [zC_new]; omega
      have e2 : zL (znew μ x w.toNatClampNeg w.toNatClampNeg) - zL μ = w.toNatClampNeg := by rw [zL_new]; omega
      simp only [e1, e2] at k hc1 hc2
      have hkn : zK (znew μ x w.toNatClampNeg w.toNatClampNeg) (zS μ) = (x, w.toNatClampNeg) := by rw [zK_new, if_pos rfl]
      have hR0 : zR (znew μ x w.toNatClampNeg w.toNatClampNeg) (zS μ) = fun _ => none := by funext j; rw [zR_new, if_pos rfl]
      have key : ∀ (t : Nat) (C : String), (zTys T)[t]? = some (T t, .object C) → (Cond.classLink (zOwn y) i C).before args s = true → Cond.arrayOver (.object C) ∈ lw_tbl → x ≤ 13 →
          (zE T (znew μ x w.toNatClampNeg w.toNatClampNeg) (zS μ) = .inl (T t, w.toNatClampNeg, .inr (.inr (.inr (.inr (fun _ => none)))))) →
          W p l e R s m args below meth cc H locs cells slots Q (F0 m pc lsA (.int w :: r)) := by
        intro t C ht hlink hover hx13 hE9
        have hv : va_AO C s := va_AO.moved hW0.alike (va_AO.of (ha0 _ hover))
        refine W.anew hx hb hown hlink (va_AO.use hv) rfl (zdec hd) rfl hk.1 (by omega) hc1 hc2 fun cA kA comp f1 f2 f3 f4 => ?_
        generalize hH1 : H.push ({ cls := cA, slots := Array.replicate w.toNatClampNeg .null, vm := .none } : Cell) = H1
        have z1 : H1.size = H.size + 1 := by rw [← hH1, Array.size_push]
        have q1 : H1[H.size]? = some (arrV cA w.toNatClampNeg (fun _ => .null)) := by rw [← hH1, Array.getElem?_push_size, ← arrV_new]
        have o1 : ∀ q : Nat, q < H.size → H1[q]? = H[q]? := fun q hq => by rw [← hH1, Array.getElem?_push, if_neg (Nat.ne_of_lt hq)]
        obtain ⟨kT, cT, g1, g2, g3, g4⟩ := (hK.2 t _ ht).2
        have hcA : cA = T t := Option.some.inj (f1.symm.trans g4)
        have hzs := hH.2.1
        have kk := k H1 locs lsA (zHp_new hH z1 o1 hx13 (fun _ => by
          rw [hE9]
          show H1[zS μ]? = some (vp_cell _ _)
          rw [← hzs, q1, hcA]
          rfl)) hL hlo
        rw [← hzs] at kk
        exact kk
      rcases hO with ⟨⟨hx9, hw⟩, hm⟩ | ⟨⟨hx9, hw⟩, hm⟩
      · subst hx9
        exact key 2 RX0 rfl (hwd _ (zhas_in hw)) (zmem_in hm) (by decide) (by rw [zE11 (by rw [hkn]), hkn, hR0])
      · subst hx9
        exact key 3 "java/lang/Object" rfl (hwd _ (zhas_in hw)) (zmem_in hm) (by decide) (by rw [zE12 (by rw [hkn]), hkn, hR0])
    · cases h
  · cases h
theorem zs_checkcast {D : va_G} {T : Nat → ClassId} {B0 de mi : Nat} {U0 : State} {y pc n x v z i : Nat} {ws : List Nat} (hO : zok y (pc, (.checkcast i), n, x, v, z, ws) = true) : zGoal D T B0 de mi U0 y (pc, (.checkcast i), n, x, v, z, ws) := by
  intro p l e R s m args below meth cc hE hC ls st μ c h H locs lsA cells slots Q hH hL hlo hc1 hc2 k
  obtain ⟨hx, hb, hown, hwd, hml, hlk, hrt, hfr, hlc, hW0, hs0, hsz, hin, htb⟩ := hC
  simp only [zok, Bool.and_eq_true, decide_eq_true_eq] at hO
  obtain ⟨hd, -, hn, hx8, hw⟩ := hO
  subst hn
  simp only [zstep] at h
  split at h
  · cases h
    simp only [Nat.sub_self, Nat.add_zero] at k
    exact lv_castN hx hb (zdec hd) (k H locs lsA hH hL hlo)
  · next a r =>
    split at h
    · next hk =>
      cases h
      simp only [Nat.sub_self, Nat.add_zero] at k
      obtain ⟨cell, h1, h2, h3⟩ := zcls (va_K.moved hW0.alike hE.1) hH hx8 hk
      have kk := k H locs lsA hH hL hlo
      intro T9 hT9 X
      obtain ⟨vm', X', st⟩ := X.checkcastYes hx hown (hwd _ (zhas_in hw)) (by rw [hT9]; exact h1) h2 h3 (va_asg _ _) (g := F0 m pc lsA (.ref a :: r)) rfl rfl (by rw [hb]; exact zdec hd)
      obtain ⟨t, a1, b1⟩ := kk (T9.setVm vm') hT9 X'
      exact ⟨t, st t a1, b1⟩
    · cases h
  · cases h
theorem zSof {B0 : Nat} {U0 s : State} {H : Heap} {locs : List Loc} (hU : B0 = U0.heap.size) (h1 : ∀ q, q < B0 → H[q]? = U0.heap[q]?) (h2 : B0 ≤ H.size) (hlo : ∀ z ∈ locs, B0 ≤ z.base) : va_S (fun q => B0 ≤ q) U0.heap H locs :=
  ⟨by omega, fun q hq _ => h1 q (by omega), hlo⟩
theorem zs_getstatic {D : va_G} {T : Nat → ClassId} {B0 de mi : Nat} {U0 : State} {y pc n x v z i : Nat} {ws : List Nat} (hO : zok y (pc, (.getstatic i), n, x, v, z, ws) = true) : zGoal D T B0 de mi U0 y (pc, (.getstatic i), n, x, v, z, ws) := by
  intro p l e R s m args below meth cc hE hC ls st μ c h H locs lsA cells slots Q hH hL hlo hc1 hc2 k
  obtain ⟨hx, hb, hown, hwd, hml, hlk, hrt, hfr, hlc, hW0, hs0, hsz, hin, htb⟩ := hC
  simp only [zok, Bool.and_eq_true, decide_eq_true_eq] at hO
  obtain ⟨hd, -, hn, hw⟩ := hO
  subst hn
  simp only [zstep] at h
  cases h
  simp only [Nat.sub_self, Nat.add_zero] at k
  obtain ⟨hK, hU, ha0, hZ, -⟩ := hE
  obtain ⟨cf, kf, fi, f, a, cell, h1, h2, h3, h4, h5, h6, h7, h8⟩ := va_Z.moved hW0.alike hZ
  have hlt : a < B0 := Nat.lt_of_not_le h8
  exact W.gets hx hb hown (hwd _ (zhas_in hw)) h1 h2 h3 h4 (by rw [hH.2.2.1 a hlt]; exact h5) (fun e => by rw [e] at h6; cases h6) h7 rfl (zdec hd) (k H locs lsA hH hL hlo)
theorem zs_tableswitch {D : va_G} {T : Nat → ClassId} {B0 de mi : Nat} {U0 : State} {y pc n x v z : Nat} {d lo hi : Int} {offs : Array Int} {ws : List Nat} (hO : zok y (pc, (.tableswitch d lo hi offs), n, x, v, z, ws) = true) : zGoal D T B0 de mi U0 y (pc, (.tableswitch d lo hi offs), n, x, v, z, ws) := by
  intro p l e R s m args below meth cc hE hC ls st μ c h H locs lsA cells slots Q hH hL hlo hc1 hc2 k
  obtain ⟨hx, hb, hown, hwd, hml, hlk, hrt, hfr, hlc, hW0, hs0, hsz, hin, htb⟩ := hC
  simp only [zok, Bool.and_eq_true, decide_eq_true_eq, List.all_eq_true, List.mem_range] at hO
  obtain ⟨hd, -, ht, hlo0, hhi, hos, hall⟩ := hO
  subst hlo0
  simp only [zstep] at h
  split at h
  · next w r =>
    split at h
    · next hk =>
      cases h
      simp only [Nat.sub_self, Nat.add_zero] at k
      have hw : w.toInt = (w.toNatClampNeg : Int) := by
        have hz0 : (0 : Int) ≤ w.toInt := by
          have := Int32.not_lt.mp hk.1
          simpa using Int32.le_iff_toInt_le.mp this
        show w.toInt = ((w.toInt.toNat : Nat) : Int)
        omega
      have hj : w.toNatClampNeg < offs.size := by omega
      have hg : offs[(w.toInt - 0).toNat]? = some (offs.getD w.toNatClampNeg 0) := by
        have : (w.toInt - 0).toNat = w.toNatClampNeg := by omega
        rw [this, Array.getElem?_eq_getElem hj]
        simp [Array.getD, hj]
      exact lv_tableIn hx hb hd (by omega) (by omega) hg (hall _ hk.2) (k H locs lsA hH hL hlo)
    · next hk =>
      cases h
      simp only [Nat.sub_self, Nat.add_zero] at k
      have hout : w.toInt < 0 ∨ hi < w.toInt := by
        by_cases h0 : w < 0
        · left
          have := Int32.lt_iff_toInt_lt.mp h0
          simpa using this
        · right
          have hz0 : (0 : Int) ≤ w.toInt := by
            have := Int32.not_lt.mp h0
            simpa using Int32.le_iff_toInt_le.mp this
          have hge : ¬ w.toNatClampNeg < ws.length := fun q => hk ⟨h0, q⟩
          have hw : w.toInt = (w.toNatClampNeg : Int) := by
            show w.toInt = ((w.toInt.toNat : Nat) : Int)
            omega
          omega
      exact lv_tableOut hx hb hd hout ht (k H locs lsA hH hL hlo)
  · cases h
theorem zs_ldc {D : va_G} {T : Nat → ClassId} {B0 de mi : Nat} {U0 : State} {y pc n x v z i : Nat} {ws : List Nat} (hO : zok y (pc, (.ldc i), n, x, v, z, ws) = true) : zGoal D T B0 de mi U0 y (pc, (.ldc i), n, x, v, z, ws) := by
  intro p l e R s m args below meth cc hE hC ls st μ c h H locs lsA cells slots Q hH hL hlo hc1 hc2 k
  obtain ⟨hx, hb, hown, hwd, hml, hlk, hrt, hfr, hlc, hW0, hs0, hsz, hin, htb⟩ := hC
  simp only [zok, Bool.and_eq_true, decide_eq_true_eq] at hO
  obtain ⟨hd, -, hn, hw⟩ := hO
  subst hn
  simp only [zstep] at h
  by_cases hz : z = 5
  · rw [if_pos hz] at h hw
    cases h
    simp only [Nat.sub_self, Nat.add_zero] at k
    exact va_ldcM hx hb hown (hwd _ (zhas_in hw)) (va_Mi.moved hW0.alike hE.2.2.2.2.2.2.2) (zdec hd) (k H locs lsA hH hL hlo)
  · rw [if_neg hz] at h hw
    cases h
    simp only [Nat.sub_self, Nat.add_zero] at k
    exact lv_ldc hx hb hown (hwd _ (zhas_in hw)) (zdec hd) (k H locs lsA hH hL hlo)
theorem zs_objInit {D : va_G} {T : Nat → ClassId} {B0 de mi : Nat} {U0 : State} {y pc n x v z i : Nat} {ws : List Nat} (hO : zok y (pc, (.invokespecial i), n, x, v, z, ws) = true) (hz : z ≠ 101) : zGoal D T B0 de mi U0 y (pc, (.invokespecial i), n, x, v, z, ws) := by
  intro p l e R s m args below meth cc hE hC ls st μ c h H locs lsA cells slots Q hH hL hlo hc1 hc2 k
  obtain ⟨hx, hb, hown, hwd, hml, hlk, hrt, hfr, hlc, hW0, hs0, hsz, hin, htb⟩ := hC
  simp only [zok, Bool.and_eq_true, decide_eq_true_eq] at hO
  obtain ⟨hd, -, hn, hO⟩ := hO
  subst hn
  rw [if_neg hz] at hO
  simp only [zstep] at h
  by_cases h210 : z = 210
  · rw [if_pos h210] at h hO
    simp only [Bool.and_eq_true, decide_eq_true_eq] at hO
    obtain ⟨w0, w1, w2, hf1, hf2⟩ := hO
    split at h
    · next a r =>
      split at h
      · next hr =>
        cases h
        simp only [Nat.sub_self, Nat.add_zero] at k
        have := zsum hr
        exact W.objInit hx hb hown (hwd _ (zhas_in w0)) (hwd _ (zhas_in w1)) (hwd _ (zhas_in w2)) rfl (by rw [hml]; exact hL.1) rfl (zdec hd) (by omega) (by show 2 * 0 + _ + _ ≤ _; omega) (k H locs lsA hH hL hlo)
      · cases h
    · cases h
  · rw [if_neg h210] at hO
    cases hO
theorem zs_getClass {D : va_G} {T : Nat → ClassId} {B0 de mi : Nat} {U0 : State} {y pc n x v z i : Nat} {ws : List Nat} (hO : zok y (pc, (.invokevirtual i), n, x, v, z, ws) = true) (hz : z ≠ 100) : zGoal D T B0 de mi U0 y (pc, (.invokevirtual i), n, x, v, z, ws) := by
  intro p l e R s m args below meth cc hE hC ls st μ c h H locs lsA cells slots Q hH hL hlo hc1 hc2 k
  obtain ⟨hx, hb, hown, hwd, hml, hlk, hrt, hfr, hlc, hW0, hs0, hsz, hin, htb⟩ := hC
  simp only [zok, Bool.and_eq_true, decide_eq_true_eq] at hO
  obtain ⟨hd, -, hn, hO⟩ := hO
  subst hn
  rw [if_neg hz] at hO
  simp only [zstep] at h
  by_cases h215 : z = 215
  · rw [if_pos h215] at h hO
    simp only [Bool.and_eq_true, decide_eq_true_eq] at hO
    obtain ⟨w0, w1, w2, w3, hf1, hf2⟩ := hO
    split at h
    · next a r =>
      split at h
      · next hr =>
        cases h
        simp only [Nat.sub_self, Nat.add_zero] at k
        have := zsum hr.2
        have hK := va_K.moved hW0.alike hE.1
        have hP := zarr hH (a := a) (by omega) (by omega)
        rw [zE12 hr.1] at hP
        obtain ⟨a0, ha0⟩ := hE.2.2.1
        have hdecl : Cond.declares ⟨"java/lang/Object", "getClass", "()Ljava/lang/Class;"⟩ ∈ lw_tbl := by decide +kernel
        exact va_getC hx hb (by rw [hml]; exact hL.1.symm) hown (hwd _ (zhas_in w0)) (va_Dc.use (va_Dc.moved hW0.alike (va_Dc.of (ha0 _ hdecl)))) (hwd _ (zhas_in w1)) (hwd _ (zhas_in w2)) (hwd _ (zhas_in w3)) (va_Mi.moved hW0.alike hE.2.2.2.2.2.2.2)
          ⟨_, hP, rfl, va_nmO (hK.2 3 _ rfl).2 rfl⟩ (by omega) (by omega) (zdec hd) (k H locs lsA hH hL hlo)
      · cases h
    · cases h
  · rw [if_neg h215] at hO
    cases hO
