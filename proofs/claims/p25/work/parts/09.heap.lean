/-! ===== soundness of the instructions that touch the heap ===== -/
theorem zcl {x : Nat} (hx : x < 8) : vwCl[x]? = some (zRC x, zTC x, zNf x) := by
  rcases (show x = 0 ∨ x = 1 ∨ x = 2 ∨ x = 3 ∨ x = 4 ∨ x = 5 ∨ x = 6 ∨ x = 7 by omega) with rfl | rfl | rfl | rfl | rfl | rfl | rfl | rfl <;> rfl
theorem zlay0 : ∀ x, x < 8 → ∀ w ∈ u_ws (zRC x) (zTC x) (zNf x), w ∈ lw_tbl ∧ goodWord w = true := by decide +kernel
theorem zlay {x : Nat} (hx : x < 8) : ∀ w ∈ u_ws (zRC x) (zTC x) (zNf x), w ∈ zBig := fun w hw => List.mem_filter.mpr (zlay0 x hx w hw)
theorem zty_ok {x : Nat} (hx : x < 8) : ∀ k, k < zNf x → parseFieldDescriptor (zTC x k).2.2.1 = some (zty x k) := by
  rcases (show x = 0 ∨ x = 1 ∨ x = 2 ∨ x = 3 ∨ x = 4 ∨ x = 5 ∨ x = 6 ∨ x = 7 by omega) with rfl | rfl | rfl | rfl | rfl | rfl | rfl | rfl
  · exact tyJx4a65c_ok
  · exact tyX0_ok
  · exact tyX1_ok
  · exact tyX2_ok
  · exact tyX3_ok
  · exact tyX4_ok
  · exact tyX5_ok
  · exact tyX5_ok
theorem znm_ok {x : Nat} (hx : x < 8) : ∀ a, a < zNf x → ∀ b, b < zNf x → a ≠ b → (zTC x a).2.1 ≠ (zTC x b).2.1 := by
  rcases (show x = 0 ∨ x = 1 ∨ x = 2 ∨ x = 3 ∨ x = 4 ∨ x = 5 ∨ x = 6 ∨ x = 7 by omega) with rfl | rfl | rfl | rfl | rfl | rfl | rfl | rfl
  · exact nmJx4a65c
  · exact nmX0
  · exact nmX1
  · exact nmX2
  · exact nmX3
  · exact nmX4
  · exact nmX5
  · exact nmX5
theorem zdef_ok : ∀ x, x < 8 → ∀ k, k < zNf x → defaultValue (zty x k) = if zref (zty x k) = true then .null else .int 0 := by decide +kernel
theorem zE_obj {T : Nat → ClassId} {μ : zM} {a x n : Nat} (hx : x < 8) (hk : zK μ a = (x + 1, n)) : zE T μ a = .inr (x, zfs x μ a) := by
  unfold zE
  rw [hk]
  rcases (show x = 0 ∨ x = 1 ∨ x = 2 ∨ x = 3 ∨ x = 4 ∨ x = 5 ∨ x = 6 ∨ x = 7 by omega) with rfl | rfl | rfl | rfl | rfl | rfl | rfl | rfl <;> rfl
theorem zfs_len {x : Nat} {μ : zM} {a : Nat} : (zfs x μ a).length = zNf x := by unfold zfs; rw [List.length_map, List.length_range]
theorem zfs_get {x : Nat} {μ : zM} {a k : Nat} (hk : k < zNf x) : (zfs x μ a)[k]? = some (zV x k μ a) := by
  unfold zfs
  rw [List.getElem?_map, List.getElem?_range hk]
  rfl
theorem zobj {D : va_G} {T : Nat → ClassId} {B0 : Nat} {U0 : State} {μ : zM} {H : Heap} {a x n : Nat} (h : zHp D T B0 U0 μ H) (hx : x < 8) (hk : zK μ a = (x + 1, n)) : va_at D vwCl (a, .inr (x, zfs x μ a)) H := by
  have h1 := (h.1 a).1 (by rw [hk]; exact ⟨by omega, by show x + 1 ≤ 13; omega⟩)
  rwa [zE_obj hx hk] at h1
theorem zone {D : va_G} {cl : List vw_C} {q : Nat × va_E} {H : Heap} (h : va_at D cl q H) : va_P D cl [q] H := by
  intro k q' hk
  have hz : k < 1 := (List.getElem?_eq_some_iff.mp hk).1
  rw [show k = 0 by omega] at hk
  cases hk
  exact h
theorem zwin {D : va_G} {T : Nat → ClassId} {B0 de mi : Nat} {U0 : State} {y : Nat} {p : Program} {l : Launch} {R : Room} {s : State} {m : MethodId} {args : Array Value} {meth : Method} {c : Code} (hC : zCtx D T B0 de mi U0 y p l R s m args meth c) {i : Nat} {w : Cond} (h : zhas i w = true) : w.before args s = true := hC.2.2.2.1 w (zhas_in h)
/-- the two ways in which a field is named -/
theorem zfld {args : Array Value} {s : State} {y x v i a b : Nat} (hwd : ∀ w ∈ zBig, w.before args s = true)
    (h : zhas a (.fieldLink (zOwn y) i (zTC x v).1 (zTC x v).2.1 (zTC x v).2.2.1) = true ∨ (zhas a (.fieldLink (zOwn y) i RJx4a65c (zTC x v).2.1 (zTC x v).2.2.1) = true ∧ zhas b (.sameField RJx4a65c (zTC x v).1 (zTC x v).2.1 (zTC x v).2.2.1) = true)) :
    ∃ ref : String, (Cond.fieldLink (zOwn y) i ref (zTC x v).2.1 (zTC x v).2.2.1).before args s = true ∧ ∀ q, s.fieldFound? (zTC x v).1 (zTC x v).2.1 (zTC x v).2.2.1 = some q → s.fieldFound? ref (zTC x v).2.1 (zTC x v).2.2.1 = some q := by
  rcases h with h | ⟨h, h2⟩
  · exact ⟨_, hwd _ (zhas_in h), fun _ h9 => h9⟩
  · exact ⟨_, hwd _ (zhas_in h), u_same (hwd _ (zhas_in h2))⟩
theorem zs_getfield {D : va_G} {T : Nat → ClassId} {B0 de mi : Nat} {U0 : State} {y pc n x v z i : Nat} {ws : List Nat} (hO : zok y (pc, (.getfield i), n, x, v, z, ws) = true) : zGoal D T B0 de mi U0 y (pc, (.getfield i), n, x, v, z, ws) := by
  intro p l e R s m args below meth cc hE hC ls st μ c h H locs lsA cells slots Q hH hL hlo hc1 hc2 k
  obtain ⟨hx, hb, hown, hwd, hml, hlk, hrt, hfr, hlc, hW0, hs0, hsz, hin, htb⟩ := hC
  simp only [zok, Bool.and_eq_true, decide_eq_true_eq, Bool.or_eq_true] at hO
  obtain ⟨hd, -, hn, hx8, hv, hz, hw⟩ := hO
  subst hn
  simp only [zstep] at h
  split at h
  · next a r =>
    split at h
    · next hk =>
      cases h
      simp only [Nat.sub_self, Nat.add_zero] at k
      obtain ⟨ref, hl, hsm⟩ := zfld hwd hw
      have hv' : (zfs x μ a)[v]? = some (if z = 1 then va_rf (zR μ a v) else .int (zI μ a v)) := by
        rw [zfs_get hv, hz]
        unfold zV
        cases zref (zty x v) <;> simp
      exact va_get (ci := x) (C := zRC x) (T := zTC x) (N := zNf x) (D := D) (cl := vwCl) (tys := zTys T) (ws := [(a, .inr (x, zfs x μ a))]) hx hb hwd (zlay hx8) hown (va_K.moved hW0.alike hE.1) (zone (zobj hH hx8 hk)) 0 rfl (zcl hx8) v hv hl hsm hv' (zdec hd) (k H locs lsA hH hL hlo)
    · cases h
  · cases h
/-- a field written -/
theorem zput {p : Program} {l : Launch} {e : Env} {R : Room} {s : State} {m : MethodId} {args : Array Value} {below : List Frame} {meth : Method} {cc : Code} {H : Heap} {locs : List Loc} {cells slots : Nat} {Q : State → Prop} {D : va_G} {tys : List (ClassId × FieldType)} {own ref : String} {x v i a pc : Nat} {fs : List Value} {v0 : Value} {rest : List Value} {lsA : Array Slot} {b : ByteArray}
    (hx : p.tables.exec = Jvm.exec) (hb : cc.code = b) (hwd : ∀ w ∈ zBig, w.before args s = true) (hown : s.vm.findClass own = some m.cls) (hK : va_K D vwCl tys s) (hx8 : x < 8) (hv : v < zNf x) (hat : va_at D vwCl (a, .inr (x, fs)) H) (hlen : fs.length = zNf x)
    (hlink : (Cond.fieldLink own i ref (zTC x v).2.1 (zTC x v).2.2.1).before args s = true) (hsame : ∀ q, s.fieldFound? (zTC x v).1 (zTC x v).2.1 (zTC x v).2.2.1 = some q → s.fieldFound? ref (zTC x v).2.1 (zTC x v).2.2.1 = some q)
    (hfin : (zTC x v).2.2.2 = true → meth.name = "<init>" ∧ (zTC x v).1 = own) (hn : narrow (zty x v) v0 = v0) (hf : fits (zty x v) v0 = true) (hdg : decode b pc = .ok (.putfield i, 3))
    (kk : ∀ (H1 : Heap) (q : Loc), q.base = a → H1.size = H.size → (∀ q, q ≠ a → H1[q]? = H[q]?) → va_at D vwCl (a, .inr (x, fs.set v v0)) H1 → W p l e R s m args below meth cc H1 (locs ++ [q]) cells slots Q (F0 m (pc + 3) lsA rest)) :
    W p l e R s m args below meth cc H locs cells slots Q (F0 m pc lsA (v0 :: .ref a :: rest)) := by
  have hap := va_apart (own := own) hwd (zlay hx8) (zty x) (zty_ok hx8) (znm_ok hx8) hK (zcl hx8)
  obtain ⟨r, h1, cell, q1, q2, q3, q4⟩ := hat
  have hr : r = (zRC x, zTC x, zNf x) := Option.some.inj (h1.symm.trans (zcl hx8))
  subst hr
  obtain ⟨hS, hfc, kC, hkC, hkind⟩ := hK.1 x _ (zcl hx8)
  obtain ⟨cf, kf, fi, f, hi, hsl⟩ := hS v hv
  have hlay := hwd _ (zlay hx8 _ (u_in_lay hv))
  have hst := (u_facts hfc hkC (u_lays hwd (zlay hx8) hv) hi).1
  have hend : ∀ H' : Heap, H'[a]? = some (cell.setSlot (D.2 x v) v0) → va_at D vwCl (a, .inr (x, fs.set v v0)) H' := fun H' e1 =>
    ⟨_, zcl hx8, t_OB.to (V := updV (vp_V fs) v v0) ⟨_, e1, q2, q3, t_set q4 hap hv v0⟩ (fun j _ => vp_updV_set (by omega) v0 j)⟩
  by_cases hF : (zTC x v).2.2.2 = true
  · obtain ⟨hin2, hdecl⟩ := hfin hF
    unfold u_lay at hlay
    rw [if_pos hF] at hlay
    have hcf : m.cls = cf := by
      obtain ⟨_, _, c', _, _, _, -, -, hf', -, -, -, hown2, -⟩ := Cond.laysFinal_spec hlay
      have e1 : c' = cf := by have := hi.symm.trans hf'; simp at this; exact this.1.symm
      rw [hdecl] at hown2
      rw [← e1]; exact Option.some.inj (hown.symm.trans hown2)
    have h6 := u_fits hfc hkC hkind (Or.inr hlay) hi (zty_ok hx8 v hv) hn hf
    refine W.putFinK hx hb hown hlink (hsame _ hi) hst hcf hin2 (by rw [q2]; exact h6) q1 q3 (by rw [hsl]; exact k2_hasslot (q4 v hv)) rfl rfl hdg fun H' e1 e2 e3 => ?_
    rw [hsl] at e1 ⊢
    exact kk H' _ rfl e2 e3 (hend H' e1)
  · unfold u_lay at hlay
    rw [if_neg hF] at hlay
    have h6 := u_store hfc hkC hkind hlay hi (zty_ok hx8 v hv) hn hf
    refine W.putK hx hb (f := f) ⟨hown, hlink, ⟨_, _, _, hsame _ hi⟩, hst⟩ (by rw [q2]; exact h6) q1 q3 (by rw [hsl]; exact k2_hasslot (q4 v hv)) rfl rfl hdg fun H' e1 e2 e3 => ?_
    rw [hsl] at e1 ⊢
    exact kk H' _ rfl e2 e3 (hend H' e1)
theorem zfs_setI {x : Nat} {μ : zM} {a k : Nat} {w : Int32} (hr : zref (zty x k) = false) : zfs x (zsI μ a k w) a = (zfs x μ a).set k (.int w) := by
  apply List.ext_getElem?
  intro j
  by_cases hj : j < zNf x
  · rw [zfs_get hj]
    by_cases e : j = k
    · subst e
      rw [List.getElem?_set_self (by rw [zfs_len]; exact hj)]
      unfold zV
      rw [hr, zI_sI]
      simp [zup]
    · rw [List.getElem?_set_ne (Ne.symm e), zfs_get hj]
      unfold zV
      rw [zI_sI, zR_sI]
      simp [zup, e]
  · rw [List.getElem?_eq_none (by rw [zfs_len]; omega), List.getElem?_eq_none (by rw [List.length_set, zfs_len]; omega)]
theorem zfs_setR {x : Nat} {μ : zM} {a k : Nat} {w : Option Nat} (hr : zref (zty x k) = true) : zfs x (zsR μ a k w) a = (zfs x μ a).set k (va_rf w) := by
  apply List.ext_getElem?
  intro j
  by_cases hj : j < zNf x
  · rw [zfs_get hj]
    by_cases e : j = k
    · subst e
      rw [List.getElem?_set_self (by rw [zfs_len]; exact hj)]
      unfold zV
      rw [hr, zR_sR]
      simp [zup]
    · rw [List.getElem?_set_ne (Ne.symm e), zfs_get hj]
      unfold zV
      rw [zI_sR, zR_sR]
      simp [zup, e]
  · rw [List.getElem?_eq_none (by rw [zfs_len]; omega), List.getElem?_eq_none (by rw [List.length_set, zfs_len]; omega)]
theorem zhlo {B0 : Nat} {locs : List Loc} {q : Loc} (h : ∀ z ∈ locs, B0 ≤ z.base) (hq : B0 ≤ q.base) : ∀ z ∈ locs ++ [q], B0 ≤ z.base := by
  intro z hz
  rcases List.mem_append.mp hz with h1 | h1
  · exact h z h1
  · rw [List.mem_singleton.mp h1]; exact hq
theorem zat_obj {D : va_G} {T : Nat → ClassId} {U0 : State} {μ : zM} {a x n : Nat} {H : Heap} (hx : x < 8) (hk : zK μ a = (x + 1, n)) (h : va_at D vwCl (a, .inr (x, zfs x μ a)) H) : zat D T U0 μ a H := by
  refine ⟨fun _ => by rw [zE_obj hx hk]; exact h, fun k => ?_, fun k => ?_⟩
  · rw [hk] at k; simp only at k; omega
  · rw [hk] at k; simp only at k; omega
theorem znar_ref {t : FieldType} (h : zref t = true) (r : Option Nat) : narrow t (va_rf r) = va_rf r ∧ fits t (va_rf r) = true := by
  cases t <;> first | (cases h; done) | (cases r <;> exact ⟨rfl, rfl⟩)
theorem znar_bool {w : Int32} (h : w = 0 ∨ w = 1) : narrow .boolean (.int w) = .int w ∧ fits .boolean (.int w) = true := by
  rcases h with rfl | rfl <;> exact ⟨by decide +kernel, by decide +kernel⟩
theorem znar_int (w : Int32) : narrow .int (.int w) = .int w ∧ fits .int (.int w) = true := ⟨rfl, rfl⟩
theorem zs_putfield {D : va_G} {T : Nat → ClassId} {B0 de mi : Nat} {U0 : State} {y pc n x v z i : Nat} {ws : List Nat} (hO : zok y (pc, (.putfield i), n, x, v, z, ws) = true) : zGoal D T B0 de mi U0 y (pc, (.putfield i), n, x, v, z, ws) := by
  intro p l e R s m args below meth cc hE hC ls st μ c h H locs lsA cells slots Q hH hL hlo hc1 hc2 k
  obtain ⟨hx, hb, hown, hwd, hml, hlk, hrt, hfr, hlc, hW0, hs0, hsz, hin, htb⟩ := hC
  simp only [zok, Bool.and_eq_true, decide_eq_true_eq, Bool.or_eq_true] at hO
  obtain ⟨hd, -, hn, hx8, hv, hz, hfin, hw⟩ := hO
  subst hn
  have hfin' : (zTC x v).2.2.2 = true → meth.name = "<init>" ∧ (zTC x v).1 = zOwn y := by
    intro hF
    rw [if_pos hF, Bool.and_eq_true, decide_eq_true_eq] at hfin
    exact ⟨hin hfin.1, hfin.2⟩
  obtain ⟨ref, hl, hsm⟩ := zfld hwd hw
  have hK := va_K.moved hW0.alike hE.1
  simp only [zstep] at h
  split at h
  · next w a r =>
    split at h
    · next hk =>
      cases h
      simp only [zC_sI, zL_sI, Nat.sub_self, Nat.add_zero] at k
      have hB : B0 ≤ a := hH.2.2.2.2.1 a (by rw [hk.1]; exact ⟨by omega, by show x + 1 ≤ 13; omega⟩)
      have hr : zref (zty x v) = false ∧ narrow (zty x v) (.int w) = .int w ∧ fits (zty x v) (.int w) = true := by
        rcases hk.2 with h0 | ⟨h0, h1⟩
        · rw [h0] at hz
          by_cases hr : zref (zty x v) = true
          · rw [if_pos hr] at hz; simp at hz
          · rw [if_neg hr] at hz
            by_cases hbo : zty x v = .boolean
            · rw [if_pos hbo] at hz; simp at hz
            · rw [if_neg hbo] at hz
              simp only [decide_true, Bool.true_and, decide_eq_true_eq] at hz
              rw [hz]
              exact ⟨rfl, znar_int w⟩
        · rw [h0] at hz
          by_cases hr : zref (zty x v) = true
          · rw [if_pos hr] at hz; simp at hz
          · rw [if_neg hr] at hz
            by_cases hbo : zty x v = .boolean
            · rw [hbo]
              exact ⟨rfl, znar_bool h1⟩
            · rw [if_neg hbo] at hz; simp at hz
      refine zput hx hb hwd hown hK hx8 hv (zobj hH hx8 hk.1) zfs_len hl hsm hfin' hr.2.1 hr.2.2 (zdec hd) (fun H1 q hq z1 o1 hat => ?_)
      refine k H1 _ lsA (zHp_put hH hB z1 o1 (zat_obj hx8 (n := 0) (by rw [zK_sI]; exact hk.1) (by rw [zfs_setI hr.1]; exact hat)) rfl (fun b hb => by rw [zI_sI, zup_ne hb]) (fun _ _ => rfl) (fun _ _ => rfl) rfl) hL (zhlo hlo (by rw [hq]; exact hB))
    · cases h
  · next w a r =>
    split at h
    · next hk =>
      cases h
      simp only [zC_sR, zL_sR, Nat.sub_self, Nat.add_zero] at k
      have hB : B0 ≤ a := hH.2.2.2.2.1 a (by rw [hk.1]; exact ⟨by omega, by show x + 1 ≤ 13; omega⟩)
      have hr : zref (zty x v) = true := by
        by_cases hr : zref (zty x v) = true
        · exact hr
        · rw [if_neg hr, hk.2] at hz
          by_cases hbo : zty x v = .boolean
          · rw [if_pos hbo] at hz; simp at hz
          · rw [if_neg hbo] at hz; simp at hz
      refine zput (v0 := va_rf (some w)) hx hb hwd hown hK hx8 hv (zobj hH hx8 hk.1) zfs_len hl hsm hfin' (znar_ref hr _).1 (znar_ref hr _).2 (zdec hd) (fun H1 q hq z1 o1 hat => ?_)
      refine k H1 _ lsA (zHp_put hH hB z1 o1 (zat_obj hx8 (n := 0) (by rw [zK_sR]; exact hk.1) (by rw [zfs_setR hr]; exact hat)) rfl (fun _ _ => rfl) (fun b hb => by rw [zR_sR, zup_ne hb]) (fun _ _ => rfl) rfl) hL (zhlo hlo (by rw [hq]; exact hB))
    · cases h
  · next a r =>
    split at h
    · next hk =>
      cases h
      simp only [zC_sR, zL_sR, Nat.sub_self, Nat.add_zero] at k
      have hB : B0 ≤ a := hH.2.2.2.2.1 a (by rw [hk.1]; exact ⟨by omega, by show x + 1 ≤ 13; omega⟩)
      have hr : zref (zty x v) = true := by
        by_cases hr : zref (zty x v) = true
        · exact hr
        · rw [if_neg hr, hk.2] at hz
          by_cases hbo : zty x v = .boolean
          · rw [if_pos hbo] at hz; simp at hz
          · rw [if_neg hbo] at hz; simp at hz
      refine zput (v0 := va_rf none) hx hb hwd hown hK hx8 hv (zobj hH hx8 hk.1) zfs_len hl hsm hfin' (znar_ref hr _).1 (znar_ref hr _).2 (zdec hd) (fun H1 q hq z1 o1 hat => ?_)
      refine k H1 _ lsA (zHp_put hH hB z1 o1 (zat_obj hx8 (n := 0) (by rw [zK_sR]; exact hk.1) (by rw [zfs_setR hr]; exact hat)) rfl (fun _ _ => rfl) (fun b hb => by rw [zR_sR, zup_ne hb]) (fun _ _ => rfl) rfl) hL (zhlo hlo (by rw [hq]; exact hB))
    · cases h
  · cases h
theorem zs_new {D : va_G} {T : Nat → ClassId} {B0 de mi : Nat} {U0 : State} {y pc n x v z i : Nat} {ws : List Nat} (hO : zok y (pc, (.new i), n, x, v, z, ws) = true) (hz9 : z ≠ 9) : zGoal D T B0 de mi U0 y (pc, (.new i), n, x, v, z, ws) := by
  intro p l e R s m args below meth cc hE hC ls st μ c h H locs lsA cells slots Q hH hL hlo hc1 hc2 k
  obtain ⟨hx, hb, hown, hwd, hml, hlk, hrt, hfr, hlc, hW0, hs0, hsz, hin, htb⟩ := hC
  simp only [zok, Bool.and_eq_true, decide_eq_true_eq] at hO
  obtain ⟨hd, -, hn, hO⟩ := hO
  rw [if_neg hz9] at hO
  simp only [Bool.and_eq_true, decide_eq_true_eq] at hO
  obtain ⟨hx8, hv, w0, w1, w2⟩ := hO
  subst hn
  subst hv
  simp only [zstep] at h
  cases h
  have e1 : zC (znew μ (x + 1) 0 (zNf x)) - zC μ = 1 := by rw [zC_new]; omega
  have e2 : zL (znew μ (x + 1) 0 (zNf x)) - zL μ = zNf x := by rw [zL_new]; omega
  simp only [e1, e2] at k hc1 hc2
  have hK := va_K.moved hW0.alike hE.1
  have hKn := hK.1 x _ (zcl hx8)
  refine W.newcK hx hb hown (hwd _ (zhas_in w0)) (hwd _ (zhas_in w1)) (hwd _ (zhas_in w2)) rfl (zdec hd) hc1 hc2 hKn.2.1 hH.2.1 fun H1 kC hkC f1 z1 o1 => ?_
  refine k H1 locs lsA (zHp_new hH (by rw [z1, hH.2.1]) (by rw [hH.2.1]; exact o1) (by omega) (fun _ => ?_)) hL hlo
  have hk : zK (znew μ (x + 1) 0 (zNf x)) (zS μ) = (x + 1, 0) := by rw [zK_new, if_pos rfl]
  rw [zE_obj hx8 hk]
  refine ⟨_, zcl hx8, (u_born (zty x) hwd (zlay hx8) hKn hkC f1 (zty_ok hx8)).to (fun j hj => ?_)⟩
  rw [zdef_ok x hx8 j hj]
  unfold vp_V
  rw [List.getD_eq_getElem?_getD, zfs_get hj]
  unfold zV
  rw [zR_new, if_pos rfl, zI_new, if_pos rfl]
  rfl
