/-! ===== the drawn hall: all of one side, all held ===== -/
section DINV
variable {n : Nat} {σ τ : Nat → Nat → Int32}
def zDI (σ : Nat → Nat → Int32) (n : Nat) : Prop := 0 < n ∧ n ≤ 8 ∧ σ 17 0 = nI 0 ∧ σ 11 0 = nI 1 ∧ σ 1 0 = nI 100 ∧ ∀ k, k < n → σ 10 k ≠ 0 ∧ σ 6 k ≠ 0 ∧ 0 < σ 5 k ∧ σ 4 k = nI 0
theorem zDI.cn (d : zDI σ n) : zcn (zheld σ) n = n := by
  have key : ∀ m, m ≤ n → zcn (zheld σ) m = m := by
    intro m
    induction m with
    | zero => intro _; rfl
    | succ m ih =>
      intro hm
      rw [zcn, ih (by omega)]
      have : zheld σ m = true := decide_eq_true (d.2.2.2.2.2 m (by omega)).1
      rw [this]; rfl
  exact key n (Nat.le_refl n)
theorem zDI.bad (d : zDI σ n) (ia : zIA σ n) : ∀ x, x ∈ zbadL → zfd σ x n = -nI 1 := by
  intro x hx
  have hN := ia.w0.2
  refine Classical.byContradiction fun q => ?_
  obtain ⟨k, hk, -, e1, -, -⟩ := zfd_ex hN q
  obtain ⟨-, -, -, -, -, -, -, -, -, -, -, -, -, ag⟩ := ia
  obtain ⟨s, a, c, hs, hac, hc, -, e⟩ := ag.2 k hk
  rw [e] at e1
  have hv : 100 * a + s < 2 ^ 31 := by omega
  have z2 : nI (100 * a + s) ≠ -nI 2 := fun z => by
    have := nI_pos hv
    rw [z] at this
    exact this (by decide +kernel)
  have z5 : nI (100 * a + s) ≠ -nI 2147483647 - nI 1 := fun z => by
    have := nI_pos hv
    rw [z] at this
    exact this (by decide +kernel)
  rw [← e1] at hx
  rcases List.mem_cons.mp hx with z | hx
  · exact nI_nneg hv z
  rcases List.mem_cons.mp hx with z | hx
  · exact z2 z
  rcases List.mem_cons.mp hx with z | hx
  · have := (nI_eq hv (by decide)).mp z
    omega
  rcases List.mem_cons.mp hx with z | hx
  · have := (nI_eq hv (by decide)).mp z
    omega
  rcases List.mem_cons.mp hx with z | hx
  · exact z5 z
  · cases hx
theorem zDI.r100 (d : zDI σ n) (ia : zIA σ n) : zfd σ (nI 100) n = nI 0 := by
  rcases zfd_is σ (nI 100) n with ⟨-, a⟩ | ⟨k, hk, h1, h2, e⟩
  · exact absurd ⟨(d.2.2.2.2.2 0 d.1).1, d.2.2.2.2.1⟩ (a 0 d.1)
  · have := ia.uq k 0 hk d.1 (h2.trans d.2.2.2.2.1.symm)
    rw [e, this]
theorem zone1 : (nI 1).toNatClampNeg - 1 = 0 := by decide +kernel
theorem zDI.cs11 (d : zDI σ n) : zcs σ 11 0 = nI 1 := by
  obtain ⟨d1, d2, d3, d4, d5, d6⟩ := d
  unfold zcs
  by_cases c : zlo σ 12 < 0
  · rw [if_pos c]
    unfold zsw
    rw [zup_f (by decide)]
    show (if 11 = 11 ∧ 0 < 12 then zsv σ 0 else σ 11 0) = nI 1
    rw [if_pos ⟨rfl, by decide⟩]
    unfold zsv
    rw [d4, zone1, if_pos ⟨by decide +kernel, (d6 0 d1).1⟩]
  · rw [if_neg c]; exact d4
theorem zRe1 {k : Nat} (hk : k < n) (h6 : τ 6 k ≠ 0) (h5 : 0 < τ 5 k) : zho τ n 10 k ≠ 0 := by
  unfold zho
  rw [zg10]
  unfold zhd
  rw [if_pos hk, if_pos ((zRe_cl τ n).1 k hk h6 h5)]
  decide
theorem zDI.spawn {c w l : Int32} (d : zDI σ n) (ia : zIA σ n) (ib : zIB σ n) (hn : n < 8) (hl : 0 < l) : zDI (zho (zcm (zcs σ) n (zslo σ) c w (nI 0) l (nI 1)) (n + 1)) (n + 1) := by
  have cn := d.cn
  obtain ⟨e, rm⟩ := ia.rm ib (by omega) (by omega)
  have c11 := d.cs11
  obtain ⟨d1, d2, d3, d4, d5, d6⟩ := d
  have f0 := rm.2.2.2.2.2.2.1
  have hs : 0 ≠ zslo σ := fun q => by
    rw [← q, c11] at f0
    exact absurd f0 (by decide +kernel)
  have v := zcm_v (σ := zcs σ) (n := n) (s := zslo σ) (c := c) (w := w) (sd := nI 0) (l := l) (r := nI 1)
  have old : ∀ f k, f = 4 ∨ f = 5 ∨ f = 6 → k ≠ n → zcm (zcs σ) n (zslo σ) c w (nI 0) l (nI 1) f k = σ f k := fun f k hf hk => by
    rw [zcm_k (by omega) hk, zs1_n (by omega) (by omega) (by omega), zcs_n (by omega) (by omega)]
  have key : ∀ k, k < n + 1 → zcm (zcs σ) n (zslo σ) c w (nI 0) l (nI 1) 6 k ≠ 0 ∧ 0 < zcm (zcs σ) n (zslo σ) c w (nI 0) l (nI 1) 5 k ∧ zcm (zcs σ) n (zslo σ) c w (nI 0) l (nI 1) 4 k = nI 0 := by
    intro k hk
    by_cases q : k = n
    · rw [q, v.2.2.2.2, v.2.2.2.1, v.2.2.1]
      exact ⟨by decide +kernel, hl, rfl⟩
    · rw [old 6 k (by omega) q, old 5 k (by omega) q, old 4 k (by omega) q]
      exact (d6 k (by omega)).2
  refine ⟨by omega, by omega, ?_, ?_, ?_, fun k hk => ⟨zRe1 hk (key k hk).1 (key k hk).2.1, ?_, ?_, ?_⟩⟩
  · rw [zho_n (by decide), zcm_7 (by omega), zcs_n (by decide) (by decide)]; exact d3
  · rw [zho_n (by decide), zcm_r (by decide) (by omega), zs1_11 hs]; exact c11
  · rw [zho_n (by decide), zcm_r (by decide) (by omega), zs1_1 (by omega), zcs_n (by decide) (by decide)]; exact d5
  · rw [zho_n (by decide)]; exact (key k hk).1
  · rw [zho_n (by decide)]; exact (key k hk).2.1
  · rw [zho_n (by decide)]; exact (key k hk).2.2
/-- the handle of the newcomer is no less than 100 -/
theorem zDI.handle {c w l : Int32} (ia : zIA σ n) (ib : zIB σ n) (hn : n < 40) (h8 : zcn (zheld σ) n < 8) : ¬ zho (zcm (zcs σ) n (zslo σ) c w (nI 0) l (nI 1)) (n + 1) 1 n < nI 100 := by
  obtain ⟨e, rm⟩ := ia.rm ib hn h8
  have hs := rm.2.2.2.2.2.1
  obtain ⟨-, -, -, -, -, -, -, -, -, -, -, -, -, ag⟩ := ia
  obtain ⟨a, ha, ea⟩ := ag.1 (zslo σ) hs
  rw [zho_n (by decide), zcm_r (by decide) (by omega), zs1_1n, zcs_n (by decide) (by decide), ea, nI_add, pk_mul, nI_add]
  exact nI_nlt (by omega) (by omega)
/-- slot 0 keeps the root -/
def zSl (σ : Nat → Nat → Int32) : Prop := σ 11 0 = nI 1 ∧ σ 10 0 ≠ 0 ∧ ¬ (nI 0 < σ 14 0 ∧ σ 15 0 = 0)
theorem zSl.mk (s : zSl σ) (hn : 0 < n) : zSl (zmk σ n) := by
  obtain ⟨s1, s2, s3⟩ := s
  refine ⟨by rw [zmk_0 (by decide) (by decide) (by decide)]; exact s1, by rw [zmk_0 (by decide) (by decide) (by decide)]; exact s2, fun q => ?_⟩
  have e15 : zmk σ n 15 0 = σ 10 0 := by
    unfold zmk
    rw [zup_f (by decide)]
    show (if 15 = 15 ∧ 0 < n then zup σ 14 0 (nI n) 10 0 else _) = _
    rw [if_pos ⟨rfl, hn⟩, zup_f (by decide)]
  rw [e15] at q
  exact s2 q.2
theorem zSl.lk {s : Nat} (q : zSl σ) : zSl (zlk σ s) := by
  obtain ⟨s1, s2, s3⟩ := q
  refine ⟨?_, by rw [zlk_0 (by decide) (by decide)]; exact s2, by rw [zlk_0 (by decide) (by decide), zlk_0 (by decide) (by decide)]; exact s3⟩
  unfold zlk
  rw [zup_f (by decide)]
  by_cases e : 0 = s
  · subst e
    rw [zup_s]
    unfold zlv1
    rw [s1, zone1, if_neg (fun z => s3 z.2)]
  · rw [zup_k e]; exact s1
theorem zSl.ge (hn : 0 < n) : ∀ (u b : Nat) (σ : Nat → Nat → Int32), zSl σ → zSl (zge n u b σ)
  | 0, b, σ, s => s
  | u + 1, b, σ, s => by
    unfold zge
    split
    · split
      · exact s
      · exact zSl.ge hn u _ _ (s.mk hn)
    · split
      · exact s
      · exact zSl.ge hn u _ _ s.lk
theorem zDI.frame {b : Nat} (d : zDI σ n) (ia : zIA σ n) : zDI (zfr1 σ n b) n ∧ zcn (zfr (zfrm σ n b)) 12 ≤ 11 := by
  obtain ⟨d1, d2, d3, d4, d5, d6⟩ := d
  have r : ∀ f, f ≠ 2 → f ≠ 3 → f ≠ 5 → zhr (zmv σ n) n n f = σ f := fun f a1 a2 a3 => by unfold zhr; rw [zrw_n a3, zmv_n a1 a2]
  have r5 : ∀ k, k < n → zhr (zmv σ n) n n 5 k = σ 5 k := fun k hk => by
    have z : zme (zmv σ n) k n = nI 0 := zme_0 (fun i hi => by
      refine decide_eq_false (fun q => q.2.2.2 ?_)
      rw [zmv_n (by decide) (by decide), (d6 i hi).2.2.2, (d6 k hk).2.2.2])
    unfold zhr
    rw [zrw_l hk, z, zmv_n (by decide) (by decide), nI_0]
    simp
  have h10 : ∀ k, k < n → zho (zhr (zmv σ n) n n) n 10 k ≠ 0 := fun k hk => zRe1 hk (by rw [r 6 (by decide) (by decide) (by decide)]; exact (d6 k hk).2.1) (by rw [r5 k hk]; exact (d6 k hk).2.2.1)
  have sl : zSl (zho (zhr (zmv σ n) n n) n) := by
    refine ⟨?_, h10 0 d1, fun q => ?_⟩
    · rw [zho_n (by decide), r 11 (by decide) (by decide) (by decide)]; exact d4
    · rw [zho_n (by decide), zho_n (by decide), r 14 (by decide) (by decide) (by decide), r 15 (by decide) (by decide) (by decide)] at q
      exact (d6 0 d1).1 (ia.wl.1 0 d1 (if_pos q))
  have sg := zSl.ge d1 b b _ sl
  have g : ∀ f, f ≠ 11 → f ≠ 13 → f ≠ 14 → f ≠ 15 → zfrm σ n b f = zho (zhr (zmv σ n) n n) n f := fun f a1 a2 a3 a4 => by unfold zfrm; rw [zge_n a1 a2 a3 a4]
  have g11 : zfrm σ n b 11 0 = nI 1 := sg.1
  refine ⟨⟨d1, d2, ?_, ?_, ?_, fun k hk => ⟨?_, ?_, ?_, ?_⟩⟩, ?_⟩
  · unfold zfr1
    rw [zup_f (by decide), g 17 (by decide) (by decide) (by decide) (by decide), zho_n (by decide), r 17 (by decide) (by decide) (by decide)]; exact d3
  · unfold zfr1
    rw [zup_f (by decide)]; exact g11
  · unfold zfr1
    rw [zup_f (by decide), g 1 (by decide) (by decide) (by decide) (by decide), zho_n (by decide), r 1 (by decide) (by decide) (by decide)]; exact d5
  · unfold zfr1
    rw [zup_f (by decide), g 10 (by decide) (by decide) (by decide) (by decide)]; exact h10 k hk
  · unfold zfr1
    rw [zup_f (by decide), g 6 (by decide) (by decide) (by decide) (by decide), zho_n (by decide), r 6 (by decide) (by decide) (by decide)]; exact (d6 k hk).2.1
  · unfold zfr1
    rw [zup_f (by decide), g 5 (by decide) (by decide) (by decide) (by decide), zho_n (by decide), r5 k hk]; exact (d6 k hk).2.2.1
  · unfold zfr1
    rw [zup_f (by decide), g 4 (by decide) (by decide) (by decide) (by decide), zho_n (by decide), r 4 (by decide) (by decide) (by decide)]; exact (d6 k hk).2.2.2
  · have lt := zcn_lt (p := zfr (zfrm σ n b)) (q := fun _ => true) (n := 12) (t := 0) (by decide) (fun _ _ _ => rfl) (decide_eq_false (by rw [g11]; decide +kernel)) rfl
    have e12 : zcn (fun _ => true) 12 = 12 := by decide +kernel
    omega
theorem zfr1_16 {b : Nat} : zfr1 σ n b 16 0 = σ 16 0 + nI 1 := by
  unfold zfr1
  rw [zup_s]
  unfold zfrm
  rw [zge_n (by decide) (by decide) (by decide) (by decide), zho_n (by decide)]
  unfold zhr
  rw [zrw_n (by decide), zmv_n (by decide) (by decide)]
/-- the hall behind its first spawn -/
theorem zDI.first : zDI (zho (zcm (zcs zs0) 0 (zslo zs0) (nI 0) (nI 0) (nI 0) (nI 9) (nI 1)) 1) 1 ∧ zho (zcm (zcs zs0) 0 (zslo zs0) (nI 0) (nI 0) (nI 0) (nI 9) (nI 1)) 1 16 0 = nI 0 := by
  have z : ∀ f k, f ≠ 13 → zs0 f k = 0 := fun f k hf => zs0_0 hf
  have lo : zlo zs0 12 = nI 0 := by
    unfold zlo
    rw [if_pos (z 11 _ (by decide))]
  have cs : zcs zs0 = zs0 := if_neg (by rw [lo]; decide +kernel)
  have sl : zslo zs0 = 0 := by unfold zslo; rw [cs, lo]; decide +kernel
  rw [cs, sl]
  have v := zcm_v (σ := zs0) (n := 0) (s := 0) (c := nI 0) (w := nI 0) (sd := nI 0) (l := nI 9) (r := nI 1)
  refine ⟨⟨by decide, by decide, ?_, ?_, ?_, fun k hk => ?_⟩, ?_⟩
  · rw [zho_n (by decide), zcm_7 (by omega), z 17 0 (by decide)]; decide +kernel
  · rw [zho_n (by decide), zcm_r (by decide) (by omega), zs1_11s]
  · rw [zho_n (by decide), zcm_r (by decide) (by omega), zs1_1n, z 12 0 (by decide)]; decide +kernel
  · obtain rfl : k = 0 := by omega
    have h6 : zcm zs0 0 0 (nI 0) (nI 0) (nI 0) (nI 9) (nI 1) 6 0 ≠ 0 := by rw [v.2.2.2.2]; decide +kernel
    have h5 : 0 < zcm zs0 0 0 (nI 0) (nI 0) (nI 0) (nI 9) (nI 1) 5 0 := by rw [v.2.2.2.1]; decide +kernel
    refine ⟨zRe1 (by decide) h6 h5, ?_, ?_, ?_⟩
    · rw [zho_n (by decide)]; exact h6
    · rw [zho_n (by decide)]; exact h5
    · rw [zho_n (by decide)]; exact v.2.2.1
  · rw [zho_n (by decide), zcm_7 (by omega), z 16 0 (by decide)]; decide +kernel
end DINV
