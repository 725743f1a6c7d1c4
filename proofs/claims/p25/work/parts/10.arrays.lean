/-! ===== soundness: arrays ===== -/
theorem zvin {i : Int32} {n : Nat} (h0 : ¬ i < 0) (h : i.toNatClampNeg < n) : vp_in i n := fun q => q.elim h0 (fun q => absurd h (Nat.not_lt.mpr q))
theorem zarr {D : va_G} {T : Nat → ClassId} {B0 : Nat} {U0 : State} {μ : zM} {H : Heap} {a : Nat} (h : zHp D T B0 U0 μ H) (h1 : 9 ≤ (zK μ a).1) (h2 : (zK μ a).1 ≤ 13) : va_at D vwCl (a, zE T μ a) H := (h.1 a).1 ⟨by omega, h2⟩
theorem zE9 {T : Nat → ClassId} {μ : zM} {a : Nat} (h : (zK μ a).1 = 9) : zE T μ a = .inl (T 0, (zK μ a).2, .inl (zI μ a)) := by unfold zE; rw [h]; rfl
theorem zE10 {T : Nat → ClassId} {μ : zM} {a : Nat} (h : (zK μ a).1 = 10) : zE T μ a = .inl (T 0, (zK μ a).2, .inl (zI μ a)) := by unfold zE; rw [h]; rfl
theorem zE11 {T : Nat → ClassId} {μ : zM} {a : Nat} (h : (zK μ a).1 = 11) : zE T μ a = .inl (T 2, (zK μ a).2, .inr (.inr (.inr (.inr (zR μ a))))) := by unfold zE; rw [h]; rfl
theorem zE12 {T : Nat → ClassId} {μ : zM} {a : Nat} (h : (zK μ a).1 = 12) : zE T μ a = .inl (T 3, (zK μ a).2, .inr (.inr (.inr (.inr (zR μ a))))) := by unfold zE; rw [h]; rfl
theorem zE13 {T : Nat → ClassId} {μ : zM} {a : Nat} (h : (zK μ a).1 = 13) : zE T μ a = .inl (T 0, (zK μ a).2, .inl (zI μ a)) := by unfold zE; rw [h]; rfl
theorem zat_arr {D : va_G} {T : Nat → ClassId} {U0 : State} {μ : zM} {a : Nat} {H : Heap} (h2 : (zK μ a).1 ≤ 13) (h : va_at D vwCl (a, zE T μ a) H) : zat D T U0 μ a H :=
  ⟨fun _ => h, fun k => by omega, fun k => by omega⟩
theorem zs_iaload {D : va_G} {T : Nat → ClassId} {B0 de mi : Nat} {U0 : State} {y pc n x v z : Nat} {ws : List Nat} (hO : zok y (pc, .iaload, n, x, v, z, ws) = true) : zGoal D T B0 de mi U0 y (pc, .iaload, n, x, v, z, ws) := by
  intro p l e R s m args below meth cc hE hC ls st μ c h H locs lsA cells slots Q hH hL hlo hc1 hc2 k
  obtain ⟨hx, hb, hown, hwd, hml, hlk, hrt, hfr, hlc, hW0, hs0, hsz, hin, htb⟩ := hC
  simp only [zok, Bool.and_eq_true, decide_eq_true_eq] at hO
  obtain ⟨hd, -, hn⟩ := hO
  subst hn
  simp only [zstep] at h
  split at h
  · next i a r =>
    split at h
    · next hk =>
      cases h
      simp only [Nat.sub_self, Nat.add_zero] at k
      obtain ⟨hk9, h0, hlt⟩ := hk
      have hK := va_K.moved hW0.alike hE.1
      rcases hk9 with hk9 | hk9
      · have hP := zone (zarr hH (a := a) (by omega) (by omega))
        rw [zE9 hk9] at hP
        exact va_iald hx hb hK hP 0 0 rfl rfl (zvin h0 hlt) (zdec hd) (k H locs lsA hH hL hlo)
      · obtain ⟨scr, g1, g2, g3, g4, g5⟩ := va_X.moved hW0.alike ((hH.1 a).2.1 hk9)
        exact W.iald (v := .int (zI μ a i.toNatClampNeg)) hx hb g1 g2 g3 (by rw [g4]; exact zvin h0 hlt) (g5 _ hlt) rfl rfl (zdec hd) (k H locs lsA hH hL hlo)
    · cases h
  · cases h
theorem zs_aaload {D : va_G} {T : Nat → ClassId} {B0 de mi : Nat} {U0 : State} {y pc n x v z : Nat} {ws : List Nat} (hO : zok y (pc, .aaload, n, x, v, z, ws) = true) : zGoal D T B0 de mi U0 y (pc, .aaload, n, x, v, z, ws) := by
  intro p l e R s m args below meth cc hE hC ls st μ c h H locs lsA cells slots Q hH hL hlo hc1 hc2 k
  obtain ⟨hx, hb, hown, hwd, hml, hlk, hrt, hfr, hlc, hW0, hs0, hsz, hin, htb⟩ := hC
  simp only [zok, Bool.and_eq_true, decide_eq_true_eq] at hO
  obtain ⟨hd, -, hn⟩ := hO
  subst hn
  simp only [zstep] at h
  split at h
  · next i a r =>
    split at h
    · next hk =>
      cases h
      simp only [Nat.sub_self, Nat.add_zero] at k
      obtain ⟨hk9, h0, hlt⟩ := hk
      have hK := va_K.moved hW0.alike hE.1
      have hP := zone (zarr hH (a := a) (by omega) (by omega))
      rcases hk9 with hk9 | hk9
      · rw [zE11 hk9] at hP
        exact va_aldq hx hb hK hP 0 2 rfl rfl (zvin h0 hlt) (zdec hd) (k H locs lsA hH hL hlo)
      · rw [zE12 hk9] at hP
        exact va_aldq hx hb hK hP 0 3 rfl rfl (zvin h0 hlt) (zdec hd) (k H locs lsA hH hL hlo)
    · cases h
  · cases h
theorem zs_arraylength {D : va_G} {T : Nat → ClassId} {B0 de mi : Nat} {U0 : State} {y pc n x v z : Nat} {ws : List Nat} (hO : zok y (pc, .arraylength, n, x, v, z, ws) = true) : zGoal D T B0 de mi U0 y (pc, .arraylength, n, x, v, z, ws) := by
  intro p l e R s m args below meth cc hE hC ls st μ c h H locs lsA cells slots Q hH hL hlo hc1 hc2 k
  obtain ⟨hx, hb, hown, hwd, hml, hlk, hrt, hfr, hlc, hW0, hs0, hsz, hin, htb⟩ := hC
  simp only [zok, Bool.and_eq_true, decide_eq_true_eq] at hO
  obtain ⟨hd, -, hn⟩ := hO
  subst hn
  simp only [zstep] at h
  split at h
  · next a r =>
    split at h
    · next hk =>
      cases h
      simp only [Nat.sub_self, Nat.add_zero] at k
      have hK := va_K.moved hW0.alike hE.1
      have kk := k H locs lsA hH hL hlo
      rcases (show (zK μ a).1 = 9 ∨ (zK μ a).1 = 10 ∨ (zK μ a).1 = 11 ∨ (zK μ a).1 = 12 ∨ (zK μ a).1 = 13 ∨ (zK μ a).1 = 14 ∨ (zK μ a).1 = 15 by omega) with h9 | h9 | h9 | h9 | h9 | h9 | h9
      · have hP := zarr hH (a := a) (by omega) (by omega)
        rw [zE9 h9] at hP
        exact W.alen (n := nI (zK μ a).2) hx hb hP ((hK.2 0 _ rfl).1 (zK μ a).2 (fun j => .int (zI μ a j))) (by rw [vp_cell_i, arrV_size]; rfl) rfl rfl (zdec hd) kk
      · have hP := zarr hH (a := a) (by omega) (by omega)
        rw [zE10 h9] at hP
        exact W.alen (n := nI (zK μ a).2) hx hb hP ((hK.2 1 _ rfl).1 (zK μ a).2 (fun j => .int (zI μ a j))) (by rw [vp_cell_i, arrV_size]; rfl) rfl rfl (zdec hd) kk
      · have hP := zarr hH (a := a) (by omega) (by omega)
        rw [zE11 h9] at hP
        exact W.alen (n := nI (zK μ a).2) hx hb hP ((hK.2 2 _ rfl).1 (zK μ a).2 (fun j => va_rf (zR μ a j))) (by rw [vp_cell_q, arrV_size]; rfl) rfl rfl (zdec hd) kk
      · have hP := zarr hH (a := a) (by omega) (by omega)
        rw [zE12 h9] at hP
        exact W.alen (n := nI (zK μ a).2) hx hb hP ((hK.2 3 _ rfl).1 (zK μ a).2 (fun j => va_rf (zR μ a j))) (by rw [vp_cell_q, arrV_size]; rfl) rfl rfl (zdec hd) kk
      · have hP := zarr hH (a := a) (by omega) (by omega)
        rw [zE13 h9] at hP
        exact W.alen (n := nI (zK μ a).2) hx hb hP ((hK.2 0 _ rfl).1 (zK μ a).2 (fun j => .int (zI μ a j))) (by rw [vp_cell_i, arrV_size]; rfl) rfl rfl (zdec hd) kk
      · obtain ⟨scr, g1, g2, g3, g4, g5⟩ := va_X.moved hW0.alike ((hH.1 a).2.1 h9)
        exact W.alen (n := nI (zK μ a).2) hx hb g1 g2 (by rw [g4]; rfl) rfl rfl (zdec hd) kk
      · obtain ⟨⟨cell, g1, g2, g3, g4⟩, g5⟩ := (hH.1 a).2.2 h9
        exact W.alen (n := nI (zK μ a).2) hx hb g1 (State.isArrayOf_alike hW0.alike g2) (by rw [g4, g5]; rfl) rfl rfl (zdec hd) kk
    · cases h
  · cases h
theorem zfun_set {α : Type} (mk : α → Value) (cA : ClassId) (n k : Nat) (f g : Nat → α) (w : α) (hg : ∀ j, g j = if j = k then w else f j) : arrV cA n (updV (fun j => mk (f j)) k (mk w)) = arrV cA n (fun j => mk (g j)) := by
  congr 1
  funext j
  unfold updV
  rw [hg j]
  by_cases e : j = k <;> simp [e]
theorem zs_iastore {D : va_G} {T : Nat → ClassId} {B0 de mi : Nat} {U0 : State} {y pc n x v z : Nat} {ws : List Nat} (hO : zok y (pc, .iastore, n, x, v, z, ws) = true) : zGoal D T B0 de mi U0 y (pc, .iastore, n, x, v, z, ws) := by
  intro p l e R s m args below meth cc hE hC ls st μ c h H locs lsA cells slots Q hH hL hlo hc1 hc2 k
  obtain ⟨hx, hb, hown, hwd, hml, hlk, hrt, hfr, hlc, hW0, hs0, hsz, hin, htb⟩ := hC
  simp only [zok, Bool.and_eq_true, decide_eq_true_eq] at hO
  obtain ⟨hd, -, hn⟩ := hO
  subst hn
  simp only [zstep] at h
  split at h
  · next w i a r =>
    split at h
    · next hk =>
      cases h
      simp only [zC_sI, zL_sI, Nat.sub_self, Nat.add_zero] at k
      obtain ⟨hk9, h0, hlt⟩ := hk
      have hP := zarr hH (a := a) (by omega) (by omega)
      rw [zE9 hk9] at hP
      have hB : B0 ≤ a := hH.2.2.2.2.1 a ⟨by omega, by omega⟩
      refine W.iast hx hb hP (((va_K.moved hW0.alike hE.1).2 0 _ rfl).1 _ (fun j => .int (zI μ a j))) (fun q => by cases q) (by show ¬ (i < 0 ∨ (arrV _ _ _).slots.size ≤ _); rw [arrV_size]; exact zvin h0 hlt) rfl rfl (zdec hd) fun H1 e1 z1 o1 => ?_
      refine k H1 _ lsA (zHp_put hH hB z1 o1 (zat_arr (by rw [zK_sI]; omega) ?_) rfl (fun b hb => by rw [zI_sI, zup_ne hb]) (fun _ _ => rfl) (fun _ _ => rfl) rfl) hL (zhlo hlo hB)
      rw [zE9 (by rw [zK_sI]; exact hk9)]
      show H1[a]? = some (vp_cell _ _)
      rw [e1, vp_cell_i, vp_cell_i, arrV_store, zK_sI]
      exact congrArg some (zfun_set Value.int (T 0) _ _ (zI μ a) (zI (zsI μ a i.toNatClampNeg w) a) w (fun j => by rw [zI_sI]; simp [zup]))
    · cases h
  · cases h
/-- a class of ours may stand where the component's class is asked -/
theorem zasg {D : va_G} {T : Nat → ClassId} {B0 de mi : Nat} {U0 s : State} {l : Launch} (hE : zEnv D T B0 de mi U0 l) (hW : U0.WarmedH s.vm) {x : Nat} (hx : x < 8) (comp c0 : ClassId) (h1 : s.vm.findClass "java/lang/Object" = some comp) (h2 : s.vm.findClass (zRC x) = some c0) : s.vm.assignable c0 comp = true := by
  obtain ⟨a0, ha0⟩ := hE.2.2.1
  have hm : Cond.castable (zRC x) "java/lang/Object" ∈ lw_tbl := by
    have hall : ∀ x, x < 8 → Cond.castable (zRC x) "java/lang/Object" ∈ lw_tbl := by decide +kernel
    exact hall x hx
  exact vb_asgC (va_Nw.warmC hW (va_Nw.of rfl (ha0 _ hm))) comp c0 h1 h2
theorem zcls {D : va_G} {T : Nat → ClassId} {B0 : Nat} {U0 s : State} {μ : zM} {H : Heap} {a x n : Nat} (hK : va_K D vwCl (zTys T) s) (h : zHp D T B0 U0 μ H) (hx : x < 8) (hk : zK μ a = (x + 1, n)) : ∃ cell : Cell, H[a]? = some cell ∧ cell.vm.isStatics = false ∧ s.vm.findClass (zRC x) = some cell.cls :=
  va_recv hK (zone (zobj h hx hk)) (ci := x) (q0 := 0) (zcl hx) rfl
theorem zs_aastore {D : va_G} {T : Nat → ClassId} {B0 de mi : Nat} {U0 : State} {y pc n x v z : Nat} {ws : List Nat} (hO : zok y (pc, .aastore, n, x, v, z, ws) = true) : zGoal D T B0 de mi U0 y (pc, .aastore, n, x, v, z, ws) := by
  intro p l e R s m args below meth cc hE hC ls st μ c h H locs lsA cells slots Q hH hL hlo hc1 hc2 k
  obtain ⟨hx, hb, hown, hwd, hml, hlk, hrt, hfr, hlc, hW0, hs0, hsz, hin, htb⟩ := hC
  simp only [zok, Bool.and_eq_true, decide_eq_true_eq] at hO
  obtain ⟨hd, -, hn⟩ := hO
  subst hn
  have hK := va_K.moved hW0.alike hE.1
  simp only [zstep] at h
  split at h
  · next w i a r =>
    split at h
    · next hk =>
      cases h
      simp only [zC_sR, zL_sR, Nat.sub_self, Nat.add_zero] at k
      obtain ⟨hk9, h0, hlt⟩ := hk
      have hP := zarr hH (a := a) (by omega) (by omega)
      have hB : B0 ≤ a := hH.2.2.2.2.1 a ⟨by omega, by omega⟩
      have key : ∀ (t : Nat) (C : String) (hE9 : zE T μ a = .inl (T t, (zK μ a).2, .inr (.inr (.inr (.inr (zR μ a)))))) (hE9' : zE T (zsR μ a i.toNatClampNeg (some w)) a = .inl (T t, (zK μ a).2, .inr (.inr (.inr (.inr (zR (zsR μ a i.toNatClampNeg (some w)) a)))))) (ht : (zTys T)[t]? = some (T t, .object C))
          (hw : ∃ (cellV : Cell) (CV : String), H[w]? = some cellV ∧ cellV.vm.isStatics = false ∧ s.vm.findClass CV = some cellV.cls ∧ ∀ comp c0 : ClassId, s.vm.findClass C = some comp → s.vm.findClass CV = some c0 → s.vm.assignable c0 comp = true),
          W p l e R s m args below meth cc H locs cells slots Q (F0 m pc lsA (.ref w :: .int i :: .ref a :: r)) := by
        intro t C hE9 hE9' ht hw
        rw [hE9] at hP
        obtain ⟨cellV, CV, g1, g3, g2, hasg⟩ := hw
        obtain ⟨kA, comp, k1, k2, k3, -⟩ := (hK.2 t _ ht).2
        obtain ⟨kE, hkE, -⟩ := Vm.findClass_spec k3
        obtain ⟨kC, hkC, -⟩ := Vm.findClass_spec g2
        refine W.aast hx hb hP (fun q h => by cases h) (fun h => by cases h) k1 k2 rfl hkE ⟨h0, by show _ < (arrV _ _ _).slots.size; rw [arrV_size]; exact hlt⟩ g1 (fun q h => by rw [h] at g3; cases g3) hkC (hasg _ _ k3 g2) rfl rfl (zdec hd) fun H1 e1 z1 o1 => ?_
        refine k H1 _ lsA (zHp_put hH hB z1 o1 (zat_arr (by rw [zK_sR]; omega) ?_) rfl (fun _ _ => rfl) (fun b hb => by rw [zR_sR, zup_ne hb]) (fun _ _ => rfl) rfl) hL (zhlo hlo hB)
        rw [hE9']
        show H1[a]? = some (vp_cell _ _)
        rw [e1, vp_cell_q, vp_cell_q, arrV_store]
        exact congrArg some (zfun_set va_rf (T t) _ _ (zR μ a) (zR (zsR μ a i.toNatClampNeg (some w)) a) (some w) (fun j => by rw [zR_sR]; simp [zup]))
      rcases hk9 with ⟨hk9, hkw⟩ | ⟨hk9, hkw⟩
      · have hkw' : zK μ w = (1 + 1, (zK μ w).2) := Prod.ext hkw rfl
        obtain ⟨cellV, g1, g3, g2⟩ := zcls hK hH (x := 1) (by decide) hkw'
        exact key 2 RX0 (zE11 hk9) (by rw [zE11 (by rw [zK_sR]; exact hk9), zK_sR]) rfl ⟨cellV, zRC 1, g1, g3, g2, fun comp c0 => vb_asgS comp c0⟩
      · have hkw' : zK μ w = ((zK μ w).1 - 1 + 1, (zK μ w).2) := Prod.ext (Nat.sub_add_cancel hkw.1).symm rfl
        obtain ⟨cellV, g1, g3, g2⟩ := zcls hK hH (x := (zK μ w).1 - 1) (by omega) hkw'
        exact key 3 "java/lang/Object" (zE12 hk9) (by rw [zE12 (by rw [zK_sR]; exact hk9), zK_sR]) rfl ⟨cellV, _, g1, g3, g2, fun comp c0 => zasg hE hW0 (by omega) comp c0⟩
    · cases h
  · next i a r =>
    split at h
    · next hk =>
      cases h
      simp only [zC_sR, zL_sR, Nat.sub_self, Nat.add_zero] at k
      obtain ⟨hk9, h0, hlt⟩ := hk
      have hP := zarr hH (a := a) (by omega) (by omega)
      have hB : B0 ≤ a := hH.2.2.2.2.1 a ⟨by omega, by omega⟩
      have key : ∀ (t : Nat) (C : String) (hE9 : zE T μ a = .inl (T t, (zK μ a).2, .inr (.inr (.inr (.inr (zR μ a)))))) (hE9' : zE T (zsR μ a i.toNatClampNeg none) a = .inl (T t, (zK μ a).2, .inr (.inr (.inr (.inr (zR (zsR μ a i.toNatClampNeg none) a)))))) (ht : (zTys T)[t]? = some (T t, .object C)),
          W p l e R s m args below meth cc H locs cells slots Q (F0 m pc lsA (.null :: .int i :: .ref a :: r)) := by
        intro t C hE9 hE9' ht
        rw [hE9] at hP
        refine va_WaastN (C := C) hx hb hP ((hK.2 t _ ht).1 (zK μ a).2 (fun j => va_rf (zR μ a j))) (fun h => by cases h) (by show ¬ (i < 0 ∨ (arrV _ _ _).slots.size ≤ _); rw [arrV_size]; exact zvin h0 hlt) rfl rfl (zdec hd) fun H1 e1 z1 o1 => ?_
        refine k H1 _ lsA (zHp_put hH hB z1 o1 (zat_arr (by rw [zK_sR]; omega) ?_) rfl (fun _ _ => rfl) (fun b hb => by rw [zR_sR, zup_ne hb]) (fun _ _ => rfl) rfl) hL (zhlo hlo hB)
        rw [hE9']
        show H1[a]? = some (vp_cell _ _)
        rw [e1, vp_cell_q, vp_cell_q, arrV_store]
        exact congrArg some (zfun_set va_rf (T t) _ _ (zR μ a) (zR (zsR μ a i.toNatClampNeg none) a) none (fun j => by rw [zR_sR]; simp [zup]))
      rcases hk9 with hk9 | hk9
      · exact key 2 RX0 (zE11 hk9) (by rw [zE11 (by rw [zK_sR]; exact hk9), zK_sR]) rfl
      · exact key 3 "java/lang/Object" (zE12 hk9) (by rw [zE12 (by rw [zK_sR]; exact hk9), zK_sR]) rfl
    · cases h
  · cases h
