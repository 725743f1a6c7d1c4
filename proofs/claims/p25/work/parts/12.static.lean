/-! ===== soundness: static members that are the kit's rows; arraycopy of references ===== -/
theorem znn {z : Int32} (hz : ¬ z < 0) : z.toInt = (z.toNatClampNeg : Int) := by
  have hz0 : (0 : Int) ≤ z.toInt := by
    have := Int32.not_lt.mp hz
    simpa using Int32.le_iff_toInt_le.mp this
  show z.toInt = ((z.toInt.toNat : Nat) : Int)
  omega
theorem zcopy {p : Program} {l : Launch} {e : Env} {R : Room} {s : State} {m : MethodId} {args : Array Value} {below : List Frame} {meth : Method} {cc : Code} {H : Heap} {locs : List Loc} {cells slots : Nat} {Q : State → Prop} {D : va_G} {T : Nat → ClassId} {B0 de mi : Nat} {U0 : State} {μ : zM} {y pc i a b t : Nat} {sp dp k : Int32} {rest : List Value} {lsA : Array Slot}
    (hE : zEnv D T B0 de mi U0 l) (hC : zCtx D T B0 de mi U0 y p l R s m args meth cc) (hH : zHp D T B0 U0 μ H) (hL : lsA.size = zX y)
    (hlink : (Cond.methodLink (zOwn y) i arraycopyName).before args s = true) (hnat : (Cond.native arraycopyName).before args s = true) (hstat : (Cond.static arraycopyName).before args s = true) (hini : (Cond.initialized "java/lang/System").before args s = true)
    (hr : rest.length ≤ 4) (ha : (zK μ a).1 = 12) (hb : (zK μ b).1 = 12) (h1 : ¬ sp < 0) (h2 : ¬ dp < 0) (h3 : ¬ k < 0) (h4 : sp.toNatClampNeg + k.toNatClampNeg ≤ (zK μ a).2) (h5 : dp.toNatClampNeg + k.toNatClampNeg ≤ (zK μ b).2) (ht : t < 8) (hel : ∀ i v, i < k.toNatClampNeg → zR μ a (sp.toNatClampNeg + i) = some v → zK μ v = (t + 1, 0))
    (hfr : 1 ≤ R.frames) (hlo : 60 ≤ R.locals) (hdg : decode (zB y) pc = .ok (.invokestatic i, 3)) (hlocs : ∀ z ∈ locs, B0 ≤ z.base)
    (kk : ∀ (H1 : Heap) (locs1 : List Loc), zHp D T B0 U0 (zsW μ b (va_cpy (zR μ a) (zR μ b) sp.toNatClampNeg dp.toNatClampNeg k.toNatClampNeg)) H1 → (∀ z ∈ locs1, B0 ≤ z.base) → W p l e R s m args below meth cc H1 locs1 cells slots Q (F0 m (pc + 3) lsA rest)) :
    W p l e R s m args below meth cc H locs cells slots Q (F0 m pc lsA (.int k :: .int dp :: .ref b :: .int sp :: .ref a :: rest)) := by
  obtain ⟨hx, hbd, hown, hwd, hml, hlk, hrt, hfr', hlc, hW0, hs0, hsz, hin, htb⟩ := hC
  have hK := va_K.moved hW0.alike hE.1
  have hPa := zarr hH (a := a) (by omega) (by omega)
  have hPb := zarr hH (a := b) (by omega) (by omega)
  rw [zE12 ha] at hPa
  rw [zE12 hb] at hPb
  have hB : B0 ≤ b := hH.2.2.2.2.1 b ⟨by omega, by omega⟩
  have hsum := zsum hr
  intro T9 hT X
  have hc0 : H[a]? = some (vp_cell (T 3) ((zK μ a).2, .inr (.inr (.inr (.inr (zR μ a)))))) := hPa
  have hc1 : H[b]? = some (vp_cell (T 3) ((zK μ b).2, .inr (.inr (.inr (.inr (zR μ b)))))) := hPb
  obtain ⟨-, k0, hk0, cm0, hkk0⟩ := (hK.2 3 _ rfl).1 (zK μ a).2 (fun j => va_rf (zR μ a j))
  obtain ⟨-, k1, hk1, cm1, hkk1⟩ := (hK.2 3 _ rfl).1 (zK μ b).2 (fun j => va_rf (zR μ b j))
  obtain ⟨vm', X', step⟩ := X.arraycopy hx hown hlink hnat hstat hini (src := a) (dst := b) (cs := vp_cell (T 3) ((zK μ a).2, .inr (.inr (.inr (.inr (zR μ a)))))) (cd := vp_cell (T 3) ((zK μ b).2, .inr (.inr (.inr (.inr (zR μ b)))))) (srcPos := sp) (destPos := dp) (n := k) (by rw [hT]; exact hc0) (by rw [hT]; exact hc1)
    (fun _ h => by cases h) (fun _ h => by cases h) (fun h => by cases h) (fun h => by cases h) hk0 hk1 hkk0 hkk1 rfl h1 h2 h3
    (by rw [znn h1, znn h3]; show ¬ _ > ((arrV (T 3) (zK μ a).2 (fun j => va_rf (zR μ a j))).slots.size : Int); rw [arrV_size]; omega)
    (by rw [znn h2, znn h3]; show ¬ _ > ((arrV (T 3) (zK μ b).2 (fun j => va_rf (zR μ b j))).slots.size : Int); rw [arrV_size]; omega)
    (fun vm₁ hal j hj => by
      have e9 : (vp_cell (T 3) ((zK μ a).2, .inr (.inr (.inr (.inr (zR μ a)))))).slots.getD (sp.toNatClampNeg + j) .null = va_rf (zR μ a (sp.toNatClampNeg + j)) := by
        show (arrV (T 3) (zK μ a).2 (fun j => va_rf (zR μ a j))).slots.getD _ _ = _
        rw [Array.getD_eq_getD_getElem?, arrV_read _ _ (by omega)]
        rfl
      rw [e9]
      cases hv : zR μ a (sp.toNatClampNeg + j) with
      | none => exact ⟨rfl, trivial⟩
      | some v =>
        obtain ⟨cellV, g1, g2, g3⟩ := zcls hK hH ht (hel j v hj hv)
        obtain ⟨kA, comp, r1, r2, r3, -⟩ := (hK.2 3 _ rfl).2
        cases hk1.symm.trans r1
        cases hkk1.symm.trans r2
        obtain ⟨kC, hkC, -⟩ := Vm.findClass_spec g3
        obtain ⟨kE, hkE, -⟩ := Vm.findClass_spec r3
        obtain ⟨kC', hkC', -⟩ := hal.2.2 _ _ hkC
        obtain ⟨kE', hkE', -⟩ := hal.2.2 _ _ hkE
        refine ⟨rfl, cellV, (show T9.heap[v]? = some cellV by rw [hT]; exact g1), (fun q h => by rw [h] at g2; cases g2), ⟨kC', hkC'⟩, ?_, ?_⟩
        · exact ⟨kE', hkE'⟩
        · show vm₁.assignable _ _ = true
          rw [hal.assignable]
          exact zasg hE hW0 ht _ _ r3 g3)
    (g := F0 m pc lsA (.int k :: .int dp :: .ref b :: .int sp :: .ref a :: rest)) rfl (by rw [hml]; exact hL) (rest := rest) rfl (by rw [hbd]; exact hdg) hfr (by have hw : nativeFrameWords "java/lang/System" "arraycopy" 5 ≤ 30 := (by decide); show 2 * 0 + _ + _ ≤ _; omega)
  have e1 : copied (vp_cell (T 3) ((zK μ a).2, .inr (.inr (.inr (.inr (zR μ a)))))) (vp_cell (T 3) ((zK μ b).2, .inr (.inr (.inr (.inr (zR μ b)))))) sp dp k = vp_cell (T 3) ((zK μ b).2, .inr (.inr (.inr (.inr (va_cpy (zR μ a) (zR μ b) sp.toNatClampNeg dp.toNatClampNeg k.toNatClampNeg))))) := by
    rw [vp_cell_q, vp_cell_q, vp_cell_q]
    exact va_copied (fun z => va_rf z) (T 3) (T 3) (zR μ a) (zR μ b) h4
  rw [e1] at X' step
  have hl : b < H.size := (Array.getElem?_eq_some_iff.mp hc1).1
  have oq : ∀ q : Nat, q ≠ b → (H.setIfInBounds b (vp_cell (T 3) ((zK μ b).2, .inr (.inr (.inr (.inr (va_cpy (zR μ a) (zR μ b) sp.toNatClampNeg dp.toNatClampNeg k.toNatClampNeg)))))))[q]? = H[q]? := fun q hq => by simp [Array.getElem?_setIfInBounds, Ne.symm hq]
  obtain ⟨t9, a1, b1⟩ := kk _ _ (zHp_put (μ' := zsW μ b (va_cpy (zR μ a) (zR μ b) sp.toNatClampNeg dp.toNatClampNeg k.toNatClampNeg)) hH hB (H1 := H.setIfInBounds b (vp_cell (T 3) ((zK μ b).2, .inr (.inr (.inr (.inr (va_cpy (zR μ a) (zR μ b) sp.toNatClampNeg dp.toNatClampNeg k.toNatClampNeg))))))) (by simp) oq (zat_arr (by rw [zK_sW]; omega) (by
      rw [zE12 (by rw [zK_sW]; exact hb), zK_sW]
      have hrow : zR (zsW μ b (va_cpy (zR μ a) (zR μ b) sp.toNatClampNeg dp.toNatClampNeg k.toNatClampNeg)) b = va_cpy (zR μ a) (zR μ b) sp.toNatClampNeg dp.toNatClampNeg k.toNatClampNeg := by
        funext j
        show (if b = b then _ else _) = _
        rw [if_pos rfl]
      rw [hrow]
      show (H.setIfInBounds b _)[b]? = some _
      simp [Array.getElem?_setIfInBounds, hl])) rfl (fun _ _ => rfl) (fun q hq => by funext j; show (if q = b then _ else _) = _; rw [if_neg hq]; rfl) (fun _ _ => rfl) rfl)
    (fun q hq => by
      rcases List.mem_append.mp hq with h | h
      · exact hlocs q h
      · obtain ⟨z, -, hz⟩ := List.mem_map.mp h
        rw [← hz]
        exact hB) _ (by rw [← hT]; rfl) X'
  exact ⟨t9, step t9 a1, b1⟩
theorem zs_static {D : va_G} {T : Nat → ClassId} {B0 de mi : Nat} {U0 : State} {y pc n x v z i : Nat} {ws : List Nat} (hO : zok y (pc, (.invokestatic i), n, x, v, z, ws) = true) (hz : ¬ (z = 102 ∨ z = 103 ∨ z = 104)) : zGoal D T B0 de mi U0 y (pc, (.invokestatic i), n, x, v, z, ws) := by
  intro p l e R s m args below meth cc hE hC ls st μ c h H locs lsA cells slots Q hH hL hlo hc1 hc2 k
  obtain ⟨hx, hb, hown, hwd, hml, hlk, hrt, hfr, hlc, hW0, hs0, hsz, hin, htb⟩ := id hC
  simp only [zok, Bool.and_eq_true, decide_eq_true_eq] at hO
  obtain ⟨hd, -, hn, hO⟩ := hO
  subst hn
  rw [if_neg hz] at hO
  simp only [zstep] at h
  by_cases h211 : z = 211
  · rw [if_pos h211] at h hO
    simp only [Bool.and_eq_true, decide_eq_true_eq] at hO
    obtain ⟨w0, w1, w2, w3, hf1, hf2⟩ := hO
    split at h
    · split at h
      · next hr =>
        cases h
        simp only [Nat.sub_self, Nat.add_zero] at k hc1 hc2
        have := zsum hr
        exact va_mmax hx hb (by rw [hml]; exact hL.1.symm) hown (hwd _ (zhas_in w0)) (hwd _ (zhas_in w1)) (hwd _ (zhas_in w2)) (hwd _ (zhas_in w3)) (by omega) (by omega) hc1 hc2 (zdec hd) (k H locs lsA hH hL hlo)
      · cases h
    · cases h
  rw [if_neg h211] at h hO
  by_cases h212 : z = 212
  · rw [if_pos h212] at h hO
    simp only [Bool.and_eq_true, decide_eq_true_eq] at hO
    obtain ⟨w0, w1, w2, w3, hf1, hf2⟩ := hO
    split at h
    · split at h
      · next hr =>
        cases h
        simp only [Nat.sub_self, Nat.add_zero] at k hc1 hc2
        have := zsum hr
        exact va_mmin hx hb (by rw [hml]; exact hL.1.symm) hown (hwd _ (zhas_in w0)) (hwd _ (zhas_in w1)) (hwd _ (zhas_in w2)) (hwd _ (zhas_in w3)) (by omega) (by omega) hc1 hc2 (zdec hd) (k H locs lsA hH hL hlo)
      · cases h
    · cases h
  rw [if_neg h212] at h hO
  by_cases h213 : z = 213
  · rw [if_pos h213] at h hO
    simp only [Bool.and_eq_true, decide_eq_true_eq] at hO
    obtain ⟨w0, w1, w2, w3, hf1, hf2⟩ := hO
    split at h
    · split at h
      · next hr =>
        cases h
        simp only [Nat.sub_self, Nat.add_zero] at k hc1 hc2
        have := zsum hr
        exact va_mabs hx hb (by rw [hml]; exact hL.1.symm) hown (hwd _ (zhas_in w0)) (hwd _ (zhas_in w1)) (hwd _ (zhas_in w2)) (hwd _ (zhas_in w3)) (by omega) (by omega) hc1 hc2 (zdec hd) (k H locs lsA hH hL hlo)
      · cases h
    · cases h
  rw [if_neg h213] at h hO
  by_cases h214 : z = 214
  · rw [if_pos h214] at h hO
    simp only [Bool.and_eq_true, decide_eq_true_eq] at hO
    obtain ⟨w0, w1, w2, w3, hf1, hf2⟩ := hO
    split at h
    · next kn dp b sp a r =>
      by_cases hcd : (r.length ≤ 4 ∧ (zK μ a).1 = 12 ∧ (zK μ b).1 = 12 ∧ ¬ sp < 0 ∧ ¬ dp < 0 ∧ ¬ kn < 0 ∧ sp.toNatClampNeg + kn.toNatClampNeg ≤ (zK μ a).2 ∧ dp.toNatClampNeg + kn.toNatClampNeg ≤ (zK μ b).2 ∧ ∃ t, t < 8 ∧ ∀ i v, i < kn.toNatClampNeg → zR μ a (sp.toNatClampNeg + i) = some v → zK μ v = (t + 1, 0))
      · rw [if_pos hcd] at h
        cases h
        simp only [zC_sW, zL_sW, Nat.sub_self, Nat.add_zero] at k
        obtain ⟨g0, g1, g2, g3, g4, g5, g6, g7, t, ht, hel⟩ := hcd
        exact zcopy hE hC hH hL.1 (hwd _ (zhas_in w0)) (hwd _ (zhas_in w1)) (hwd _ (zhas_in w2)) (hwd _ (zhas_in w3)) g0 g1 g2 g3 g4 g5 g6 g7 ht hel (by omega) (by omega) (zdec hd) hlo (fun H1 locs1 q1 q2 => k H1 locs1 lsA q1 hL q2)
      · rw [if_neg hcd] at h
        cases h
    · cases h
  rw [if_neg h214] at hO
  cases hO
