/-! ===== the class's calls over the lists: what the kernel counts, and that the class answers it ===== -/
/-- the lists, how many have come, cells and slots used -/
abbrev zWd : Type := zT × Nat × Nat × Nat
/-- a value of the law: an int, or a name (0: the hall; others: ints that are not looked at) -/
abbrev zV9 : Type := Int32 ⊕ Nat
abbrev zR9 : Type := zV9 ⊕ Nat
def zden (h : Nat) (ρ : Nat → Int32) (v : zV9) : Value := match v with
  | .inl x => .int x
  | .inr k => if k = 0 then .ref h else .int (ρ k)
def zdnR (h : Nat) (ρ : Nat → Int32) (r : zR9) : zRes := match r with
  | .inl v => .inl (some (zden h ρ v))
  | .inr E => .inr E
noncomputable def zRl (b de h L : Nat) (xs : Nat → Int32) (w : zWd) (μ : zM) : Prop := zSh w.1 ∧ zS1 b de h L xs (zD w.1) w.2.1 w.2.2.1 w.2.2.2 μ
def zmT (w : zWd) (E : Nat) : Option (zR9 × zWd) := some (.inr E, (w.1, w.2.1, w.2.2.1 + 1, w.2.2.2 + 6))
def zmV (w : zWd) (v : Int32) : Option (zR9 × zWd) := some (.inl (.inl v), w)
def zmN (w : zWd) (v : Int32) (T : zT) (n c s : Nat) : Option (zR9 × zWd) := some (.inl (.inl v), (T, n, w.2.2.1 + c, w.2.2.2 + s))
noncomputable def zfk (w : zWd) (x : Int32) : Nat := (zfd (zD w.1) x w.2.1).toNatClampNeg
noncomputable def zm16 (w : zWd) (x c wy sd l : Int32) : Option (zR9 × zWd) :=
  if x ≠ -nI 1 ∧ zfd (zD w.1) x w.2.1 = -nI 1 then zmT w 0
  else if zrt c wy sd l = 0 then zmT w 1
  else if ¬ (w.2.1 < 40 ∧ zcn (zheld (zD w.1)) w.2.1 < 8) then zmT w 2
  else if x = -nI 1 then (match zhT (zcmT (zcsT w.1) w.2.1 (zslo (zD w.1)) c wy sd l (nI 1)) (w.2.1 + 1) with
    | none => none
    | some T' => zmN w (zD T' 1 w.2.1) T' (w.2.1 + 1) 3 83)
  else if zD w.1 7 (zfk w x) = nI 3 then zmT w 2
  else (match zhT (ztieT (zcmT (zcsT w.1) w.2.1 (zslo (zD w.1)) c wy sd l (nI 0)) (zfk w x) (zD w.1 7 (zfk w x)).toNatClampNeg (nI w.2.1) (nI 0)) (w.2.1 + 1) with
    | none => none
    | some T' => zmN w (zD T' 1 w.2.1) T' (w.2.1 + 1) 5 155)
noncomputable def zm17 (w : zWd) (x : Int32) : Option (zR9 × zWd) :=
  if zfd (zD w.1) x w.2.1 = -nI 1 then zmT w 0
  else if zD w.1 6 (zfk w x) = 0 then zmT w 2
  else (match zhT (zut w.1 6 (zfk w x) (nI 0)) w.2.1 with
    | none => none
    | some T' => zmN w (nI (zcn (zheld (zD T')) w.2.1)) T' w.2.1 0 0)
noncomputable def zm18 (w : zWd) (x y kd : Int32) : Option (zR9 × zWd) :=
  if zfd (zD w.1) x w.2.1 = -nI 1 ∨ zfd (zD w.1) y w.2.1 = -nI 1 ∨ zin kd (nI 0) (nI 2) = 0 then zmT w 0
  else if zfk w x = zfk w y then zmT w 1
  else if zD w.1 7 (zfk w x) = nI 3 then zmT w 2
  else zmN w (nI ((zD w.1 7 (zfk w x)).toNatClampNeg + 1)) (ztieT w.1 (zfk w x) (zD w.1 7 (zfk w x)).toNatClampNeg (nI (zfk w y)) kd) w.2.1 2 72
noncomputable def zm19 (w : zWd) (x p : Int32) : Option (zR9 × zWd) :=
  if zfd (zD w.1) x w.2.1 = -nI 1 then zmT w 0
  else if zin p (nI 0) (zD w.1 7 (zfk w x) - nI 1) = 0 then zmT w 0
  else (match zhT (zunT w.1 (zfk w x) ((zD w.1 7 (zfk w x)).toNatClampNeg - 1) p.toNatClampNeg) w.2.1 with
    | none => none
    | some T' => zmN w (nI (zcn (zheld (zD T')) w.2.1)) T' w.2.1 1 70)
noncomputable def zm25 (w : zWd) (x p : Int32) : Option (zR9 × zWd) :=
  if zfd (zD w.1) x w.2.1 = -nI 1 then zmT w 0
  else if zin p (nI 0) (zD w.1 7 (zfk w x) - nI 1) = 0 then zmT w 0
  else zmV w (if zD w.1 10 (ztg (zD w.1) (3 * zfk w x + p.toNatClampNeg)) = 0 then -nI 1 else zD w.1 1 (ztg (zD w.1) (3 * zfk w x + p.toNatClampNeg)))
noncomputable def zm27 (w : zWd) (f c wy s l : Int32) : Option (zR9 × zWd) :=
  if zin f (zD w.1 16 0) (nI 500) = 0 ∨ zrt c wy s l = 0 then zmT w 1
  else if zD w.1 17 0 = nI 20 then zmT w 2
  else zmN w (nI (znw (zD w.1) + 1)) (zwvT w.1 (znw (zD w.1)) f c wy s l) w.2.1 2 75
noncomputable def zm28 (w : zWd) (x : Int32) : Option (zR9 × zWd) :=
  if zin x (nI 0) (nI 50) = 0 then zmT w 1
  else if zD w.1 16 0 = nI 500 then zmT w 2
  else (match zwLT (w.1, w.2.1) (znw (zD w.1)) with
    | none => none
    | some q => (match zfrT q.1 q.2 x.toNatClampNeg with
      | none => none
      | some T' => zmN w (nI (zcn (zfr (zD T')) 12)) (zut T' 16 0 (zD T' 16 0 + nI 1)) q.2 60 1660))
noncomputable def zm36 (w : zWd) (x : Int32) : Option (zR9 × zWd) :=
  if zfd (zD w.1) x w.2.1 = -nI 1 then zmT w 0
  else if zD w.1 23 0 = nI 30 then zmT w 2
  else zmN w (nI (zns (zD w.1))) (zsoT w.1 (zns (zD w.1)) (zfk w x)) w.2.1 2 72
section ECALLS
variable {b de h mi L : Nat} {xs : Nat → Int32} {μ : zM} {w w' : zWd} {r : zR9} {ρ : Nat → Int32} {Q : zRes → zM → Prop}
theorem zRl.T {E : Nat} (q : zRl b de h L xs w μ) {μ' : zM} (s : zS1 b de h L xs (zD w.1) w.2.1 (w.2.2.1 + 1) (w.2.2.2 + 6) μ') (e : zmT w E = some (r, w')) (hq : ∀ μ', zRl b de h L xs w' μ' → Q (zdnR h ρ r) μ') : Q (.inr E) μ' := by
  cases e
  exact hq μ' ⟨q.1, s⟩
theorem zRl.V {v : Int32} (q : zRl b de h L xs w μ) (e : zmV w v = some (r, w')) (hq : ∀ μ', zRl b de h L xs w' μ' → Q (zdnR h ρ r) μ') : Q (.inl (some (.int v))) μ := by
  cases e
  exact hq μ q
theorem zRl.N {v : Int32} {T : zT} {n c s : Nat} {σ : Nat → Nat → Int32} {μ' : zM} (k : zOk T σ) (s1 : zS1 b de h L xs σ n (w.2.2.1 + c) (w.2.2.2 + s) μ') (e : zmN w v T n c s = some (r, w')) (hq : ∀ μ', zRl b de h L xs w' μ' → Q (zdnR h ρ r) μ') : Q (.inl (some (.int v))) μ' := by
  cases e
  refine hq μ' ⟨k.1, ?_⟩
  show zS1 b de h L xs (zD T) n (w.2.2.1 + c) (w.2.2.2 + s) μ'
  rw [k.2]; exact s1
theorem zRl.ok (q : zRl b de h L xs w μ) : zOk w.1 (zD w.1) := ⟨q.1, rfl⟩
theorem zRl.ia (q : zRl b de h L xs w μ) : zIA (zD w.1) w.2.1 := q.2.2.2.1
theorem zRl.ib (q : zRl b de h L xs w μ) : zIB (zD w.1) w.2.1 := q.2.2.2.2
theorem E16 {x c wy sd l : Int32} (q : zRl b de h L xs w μ) (e : zm16 w x c wy sd l = some (r, w')) (hq : ∀ μ', zRl b de h L xs w' μ' → Q (zdnR h ρ r) μ') : zCall de mi 16 [.ref h, .int x, .int c, .int wy, .int sd, .int l] μ Q := by
  have hN := q.ia.w0.2
  unfold zm16 at e
  by_cases h1 : x ≠ -nI 1 ∧ zfd (zD w.1) x w.2.1 = -nI 1
  · rw [if_pos h1] at e
    exact O16a q.2 h1.1 h1.2 (fun μ' s => q.T s e hq)
  rw [if_neg h1] at e
  have hx : x = -nI 1 ∨ zfd (zD w.1) x w.2.1 ≠ -nI 1 := by
    by_cases g : x = -nI 1
    · exact Or.inl g
    · exact Or.inr (fun z => h1 ⟨g, z⟩)
  by_cases h2 : zrt c wy sd l = 0
  · rw [if_pos h2] at e
    exact O16b q.2 hx h2 (fun μ' s => q.T s e hq)
  rw [if_neg h2] at e
  by_cases h3 : w.2.1 < 40 ∧ zcn (zheld (zD w.1)) w.2.1 < 8
  · rw [if_neg (fun z => z h3)] at e
    by_cases h4 : x = -nI 1
    · rw [if_pos h4] at e
      subst h4
      cases hh : zhT (zcmT (zcsT w.1) w.2.1 (zslo (zD w.1)) c wy sd l (nI 1)) (w.2.1 + 1) with
      | none => rw [hh] at e; cases e
      | some T' =>
        rw [hh] at e
        have k := zhT_ok (q.ok.come q.ia q.ib h3.1 h3.2) (by omega) (zcome_W7 q.ia) hh
        refine O16e q.2 h2 h3 (fun μ' s => ?_)
        rw [← congrFun (congrFun k.2 1) w.2.1]
        exact zRl.N k s e hq
    · rw [if_neg h4] at e
      obtain ⟨k, hk, -, -, hv, ek⟩ := zfd_ex hN (hx.resolve_left h4)
      have ek' : zfk w x = k := ek
      rw [ek'] at e
      by_cases h5 : zD w.1 7 k = nI 3
      · rw [if_pos h5] at e
        exact O16d q.2 h4 hv hk h2 h3 h5 (fun μ' s => q.T s e hq)
      · rw [if_neg h5] at e
        obtain ⟨j, hj3, hj⟩ := q.ia.w7.1 k hk
        have hj2 : j < 3 := by
          have : j ≠ 3 := fun z => h5 (by rw [hj, z])
          omega
        have ej : (zD w.1 7 k).toNatClampNeg = j := by rw [hj, nI_clamp (by omega)]
        rw [ej] at e
        cases hh : zhT (ztieT (zcmT (zcsT w.1) w.2.1 (zslo (zD w.1)) c wy sd l (nI 0)) k j (nI w.2.1) (nI 0)) (w.2.1 + 1) with
        | none => rw [hh] at e; cases e
        | some T' =>
          rw [hh] at e
          have h7z : zcm (zcs (zD w.1)) w.2.1 (zslo (zD w.1)) c wy sd l (nI 0) 7 k = nI j := by rw [zcm_7 (by omega), zcs_n (by decide) (by decide)]; exact hj
          have kk := zhT_ok ((q.ok.come q.ia q.ib h3.1 h3.2).tie (by omega) hj2) (by omega) (ztie_W7 (zcome_W7 q.ia) (by omega) h7z hj2) hh
          refine O16f q.2 h4 hv hk h2 h3 hj hj2 (fun μ' s => ?_)
          rw [← congrFun (congrFun kk.2 1) w.2.1]
          exact zRl.N kk s e hq
  · rw [if_pos h3] at e
    exact O16c q.2 hx h2 h3 (fun μ' s => q.T s e hq)
theorem E17 {x : Int32} (q : zRl b de h L xs w μ) (e : zm17 w x = some (r, w')) (hq : ∀ μ', zRl b de h L xs w' μ' → Q (zdnR h ρ r) μ') : zCall de mi 17 [.ref h, .int x] μ Q := by
  have hN := q.ia.w0.2
  unfold zm17 at e
  by_cases h1 : zfd (zD w.1) x w.2.1 = -nI 1
  · rw [if_pos h1] at e
    exact O17a q.2 h1 (fun μ' s => q.T s e hq)
  rw [if_neg h1] at e
  obtain ⟨k, hk, -, -, hv, ek⟩ := zfd_ex hN h1
  have ek' : zfk w x = k := ek
  rw [ek'] at e
  by_cases h2 : zD w.1 6 k = 0
  · rw [if_pos h2] at e
    exact O17b q.2 hv hk h2 (fun μ' s => q.T s e hq)
  rw [if_neg h2] at e
  cases hh : zhT (zut w.1 6 k (nI 0)) w.2.1 with
  | none => rw [hh] at e; cases e
  | some T' =>
    rw [hh] at e
    have kk := zhT_ok (q.ok.ut (f := 6) (x := nI 0) (show k < 40 by omega)) hN (q.ia.w7.row (zup_f (by decide)) (zup_f (by decide))) hh
    refine O17c q.2 hv hk h2 (fun μ' s => ?_)
    rw [← kk.2]
    exact zRl.N (c := 0) (s := 0) kk s e hq
theorem E18 {x y kd : Int32} (q : zRl b de h L xs w μ) (e : zm18 w x y kd = some (r, w')) (hq : ∀ μ', zRl b de h L xs w' μ' → Q (zdnR h ρ r) μ') : zCall de mi 18 [.ref h, .int x, .int y, .int kd] μ Q := by
  have hN := q.ia.w0.2
  unfold zm18 at e
  by_cases h1 : zfd (zD w.1) x w.2.1 = -nI 1 ∨ zfd (zD w.1) y w.2.1 = -nI 1 ∨ zin kd (nI 0) (nI 2) = 0
  · rw [if_pos h1] at e
    exact O18a q.2 h1 (fun μ' s => q.T s e hq)
  rw [if_neg h1] at e
  obtain ⟨k, hk, -, -, hv, ek⟩ := zfd_ex hN (fun z => h1 (Or.inl z))
  obtain ⟨t, ht, hth, -, hw, et⟩ := zfd_ex hN (fun z => h1 (Or.inr (Or.inl z)))
  have hz : zin kd (nI 0) (nI 2) ≠ 0 := fun z => h1 (Or.inr (Or.inr z))
  have ek' : zfk w x = k := ek
  have et' : zfk w y = t := et
  rw [ek', et'] at e
  by_cases h2 : k = t
  · rw [if_pos h2] at e
    exact O18b q.2 hv hk (by rw [hw, h2]) hz (fun μ' s => q.T s e hq)
  rw [if_neg h2] at e
  by_cases h3 : zD w.1 7 k = nI 3
  · rw [if_pos h3] at e
    exact O18c q.2 hv hk hw ht hz h2 h3 (fun μ' s => q.T s e hq)
  rw [if_neg h3] at e
  obtain ⟨j, hj3, hj⟩ := q.ia.w7.1 k hk
  have hj2 : j < 3 := by
    have : j ≠ 3 := fun z => h3 (by rw [hj, z])
    omega
  have ej : (zD w.1 7 k).toNatClampNeg = j := by rw [hj, nI_clamp (by omega)]
  rw [ej] at e
  exact O18d q.2 hv hk hw ht hth hz h2 hj hj2 (fun μ' s => zRl.N (q.ok.tie (by omega) hj2) s e hq)
theorem E19 {x p : Int32} (q : zRl b de h L xs w μ) (e : zm19 w x p = some (r, w')) (hq : ∀ μ', zRl b de h L xs w' μ' → Q (zdnR h ρ r) μ') : zCall de mi 19 [.ref h, .int x, .int p] μ Q := by
  have hN := q.ia.w0.2
  unfold zm19 at e
  by_cases h1 : zfd (zD w.1) x w.2.1 = -nI 1
  · rw [if_pos h1] at e
    exact O19a q.2 h1 (fun μ' s => q.T s e hq)
  rw [if_neg h1] at e
  obtain ⟨k, hk, -, -, hv, ek⟩ := zfd_ex hN h1
  have ek' : zfk w x = k := ek
  rw [ek'] at e
  by_cases h2 : zin p (nI 0) (zD w.1 7 k - nI 1) = 0
  · rw [if_pos h2] at e
    exact O19b q.2 hv hk h2 (fun μ' s => q.T s e hq)
  rw [if_neg h2] at e
  obtain ⟨l, hl3, hl⟩ := q.ia.w7.1 k hk
  rw [hl] at h2
  obtain ⟨j, hj, ej⟩ := zpl2 hl3 h2
  subst ej
  obtain ⟨l', rfl⟩ : ∃ l', l = l' + 1 := ⟨l - 1, by omega⟩
  have el : (zD w.1 7 k).toNatClampNeg - 1 = l' := by rw [hl, nI_clamp (by omega)]; rfl
  rw [el, nI_clamp (by omega)] at e
  cases hh : zhT (zunT w.1 k l' j) w.2.1 with
  | none => rw [hh] at e; cases e
  | some T' =>
    rw [hh] at e
    have ww := zun_W q.ia.w7 q.ia.w9 hk hl (show l' < 3 by omega) (show j ≤ l' by omega)
    have kk := zhT_ok (q.ok.un (show k < 40 by omega) (show l' ≤ 3 by omega)) hN ww.1 hh
    refine O19c q.2 hv hk hl (by omega) (by omega) (fun μ' s => ?_)
    rw [← kk.2]
    exact zRl.N kk s e hq
theorem E25 {x p : Int32} (q : zRl b de h L xs w μ) (e : zm25 w x p = some (r, w')) (hq : ∀ μ', zRl b de h L xs w' μ' → Q (zdnR h ρ r) μ') : zCall de mi 25 [.ref h, .int x, .int p] μ Q := by
  have hN := q.ia.w0.2
  unfold zm25 at e
  by_cases h1 : zfd (zD w.1) x w.2.1 = -nI 1
  · rw [if_pos h1] at e
    exact O25a q.2 h1 (fun μ' s => q.T s e hq)
  rw [if_neg h1] at e
  obtain ⟨k, hk, -, -, hv, ek⟩ := zfd_ex hN h1
  have ek' : zfk w x = k := ek
  rw [ek'] at e
  by_cases h2 : zin p (nI 0) (zD w.1 7 k - nI 1) = 0
  · rw [if_pos h2] at e
    exact O25b q.2 hv hk h2 (fun μ' s => q.T s e hq)
  rw [if_neg h2] at e
  exact O25c q.2 hv hk h2 (q.V e hq)
theorem E27 {f c wy s l : Int32} (q : zRl b de h L xs w μ) (e : zm27 w f c wy s l = some (r, w')) (hq : ∀ μ', zRl b de h L xs w' μ' → Q (zdnR h ρ r) μ') : zCall de mi 27 [.ref h, .int f, .int c, .int wy, .int s, .int l] μ Q := by
  unfold zm27 at e
  by_cases h1 : zin f (zD w.1 16 0) (nI 500) = 0 ∨ zrt c wy s l = 0
  · rw [if_pos h1] at e
    exact O27a q.2 h1 (fun μ' s => q.T s e hq)
  rw [if_neg h1] at e
  by_cases h2 : zD w.1 17 0 = nI 20
  · rw [if_pos h2] at e
    exact O27b q.2 (fun z => h1 (Or.inl z)) (fun z => h1 (Or.inr z)) h2 (fun μ' s => q.T s e hq)
  rw [if_neg h2] at e
  obtain ⟨W, hW, eW, -⟩ := q.ib.1
  have hW2 : znw (zD w.1) < 20 := by
    have e1 : znw (zD w.1) = W := by unfold znw; rw [eW, nI_clamp (by omega)]
    have : W ≠ 20 := fun z => h2 (by rw [eW, z])
    omega
  exact O27c q.2 (fun z => h1 (Or.inl z)) (fun z => h1 (Or.inr z)) h2 (fun μ' s => zRl.N (q.ok.wv hW2) s e hq)
theorem E28 {x : Int32} (q : zRl b de h L xs w μ) (e : zm28 w x = some (r, w')) (hq : ∀ μ', zRl b de h L xs w' μ' → Q (zdnR h ρ r) μ') : zCall de mi 28 [.ref h, .int x] μ Q := by
  unfold zm28 at e
  by_cases h1 : zin x (nI 0) (nI 50) = 0
  · rw [if_pos h1] at e
    exact O28a q.2 h1 (fun μ' s => q.T s e hq)
  rw [if_neg h1] at e
  by_cases h2 : zD w.1 16 0 = nI 500
  · rw [if_pos h2] at e
    exact O28b q.2 h1 h2 (fun μ' s => q.T s e hq)
  rw [if_neg h2] at e
  cases hw : zwLT (w.1, w.2.1) (znw (zD w.1)) with
  | none => rw [hw] at e; cases e
  | some q1 =>
    rw [hw] at e
    simp only at e
    cases hf : zfrT q1.1 q1.2 x.toNatClampNeg with
    | none => rw [hf] at e; cases e
    | some T' =>
      rw [hf] at e
      have iv : zIV (zD w.1) := q.ia.iv q.ib
      obtain ⟨k1, k2⟩ := zwLT_ok q.ok iv q.ia.nu (znw (zD w.1)) q1 (Nat.le_refl _) hw
      have iv1 := iv.wL (znw (zD w.1)) (Nat.le_refl _)
      have ia1 : zIA (zwL (zD w.1) (znw (zD w.1))) q1.2 := by rw [← k2]; exact iv1.1
      have kf := zfrT_ok k1 ia1 hf
      refine O28c q.2 h1 h2 (fun μ' s => ?_)
      rw [k2] at s ⊢
      have kk : zOk (zut T' 16 0 (zD T' 16 0 + nI 1)) (zfr1 (zwL (zD w.1) (znw (zD w.1))) q1.2 x.toNatClampNeg) := by
        unfold zfr1
        rw [kf.2]
        exact kf.ut (f := 16) (show 0 < 1 by decide)
      rw [← kf.2]
      exact zRl.N kk s e hq
theorem E36 {x : Int32} (q : zRl b de h L xs w μ) (e : zm36 w x = some (r, w')) (hq : ∀ μ', zRl b de h L xs w' μ' → Q (zdnR h ρ r) μ') : zCall de mi 36 [.ref h, .int x] μ Q := by
  have hN := q.ia.w0.2
  unfold zm36 at e
  by_cases h1 : zfd (zD w.1) x w.2.1 = -nI 1
  · rw [if_pos h1] at e
    exact O36a q.2 h1 (fun μ' s => q.T s e hq)
  rw [if_neg h1] at e
  obtain ⟨k, hk, -, -, hv, ek⟩ := zfd_ex hN h1
  have ek' : zfk w x = k := ek
  rw [ek'] at e
  by_cases h2 : zD w.1 23 0 = nI 30
  · rw [if_pos h2] at e
    exact O36b q.2 hv hk h2 (fun μ' s => q.T s e hq)
  rw [if_neg h2] at e
  obtain ⟨S, hS, eS, -⟩ := q.ib.2.2.1
  have hS2 : zns (zD w.1) < 30 := by
    have e1 : zns (zD w.1) = S := by unfold zns; rw [eS, nI_clamp (by omega)]
    have : S ≠ 30 := fun z => h2 (by rw [eS, z])
    omega
  exact O36c q.2 hv hk h2 (fun μ' s => zRl.N (q.ok.so hS2) s e hq)
end ECALLS
