/-! ===== what the calls do to the lists ===== -/
section TWINS
variable {n : Nat} {σ : Nat → Nat → Int32} {T T' : zT}
noncomputable def zswT (T : zT) : zT := zut (zrwT T 11 12 (zsv (zD T))) 13 0 (-nI 1)
theorem zOk.sw (h : zOk T σ) : zOk (zswT T) (zsw σ) := by
  unfold zswT
  rw [h.2]
  exact (h.rw (f := 11) (i := 12) (g := zsv σ) (by decide) (by decide)).ut (by decide)
noncomputable def zcsT (T : zT) : zT := if zlo (zD T) 12 < 0 then zswT T else T
theorem zOk.cs (h : zOk T σ) : zOk (zcsT T) (zcs σ) := by
  unfold zcsT zcs
  rw [h.2]
  by_cases c : zlo σ 12 < 0
  · rw [if_pos c, if_pos c]; exact h.sw
  · rw [if_neg c, if_neg c]; exact h
noncomputable def zcmT (T : zT) (n s : Nat) (c w sd l r : Int32) : zT := zut (zut (zut (zut (zut (zut (zut (zut (zut T 12 s (zD T 12 s + nI 1)) 11 s (nI (n + 1))) 1 n (nI 100 * (zD T 12 s + nI 1) + nI s)) 2 n c) 3 n w) 4 n sd) 5 n l) 6 n r) 0 0 (nI (n + 1))
theorem zOk.cm {s : Nat} {c w sd l r : Int32} (h : zOk T σ) (hs : s < 12) (hn : n < 40) : zOk (zcmT T n s c w sd l r) (zcm σ n s c w sd l r) := by
  unfold zcmT zcm
  rw [h.2]
  exact ((((((((h.ut (f := 12) hs).ut (f := 11) hs).ut (f := 1) hn).ut (f := 2) hn).ut (f := 3) hn).ut (f := 4) hn).ut (f := 5) hn).ut (f := 6) hn).ut (f := 0) (show 0 < 1 by decide)
noncomputable def ztieT (T : zT) (k l : Nat) (t kd : Int32) : zT := zut (zut (zut T 8 (3 * k + l) t) 9 (3 * k + l) kd) 7 k (nI (l + 1))
theorem zOk.tie {k l : Nat} {t kd : Int32} (h : zOk T σ) (hk : k < 40) (hl : l < 3) : zOk (ztieT T k l t kd) (ztie σ k l t kd) :=
  ((h.ut (f := 8) (show 3 * k + l < 120 by omega)).ut (f := 9) (show 3 * k + l < 120 by omega)).ut (f := 7) hk
noncomputable def zunT (T : zT) (k l p : Nat) : zT := zut (zrwT (zrwT T 8 (3 * k + l) (fun j => if 3 * k + p ≤ j then zD T 8 (j + 1) else zD T 8 j)) 9 (3 * k + l) (fun j => if 3 * k + p ≤ j then zD T 9 (j + 1) else zD T 9 j)) 7 k (nI l)
theorem zsh_rw {a i : Nat} : zsh σ a i = zrw (zrw σ 8 i (fun j => if a ≤ j then σ 8 (j + 1) else σ 8 j)) 9 i (fun j => if a ≤ j then σ 9 (j + 1) else σ 9 j) := by
  funext f j
  show (if (f = 8 ∨ f = 9) ∧ a ≤ j ∧ j < i then σ f (j + 1) else σ f j) = if f = 9 ∧ j < i then (if a ≤ j then σ 9 (j + 1) else σ 9 j) else if f = 8 ∧ j < i then (if a ≤ j then σ 8 (j + 1) else σ 8 j) else σ f j
  by_cases h9 : f = 9
  · subst h9
    by_cases c : j < i
    · rw [if_pos (show (9 = 9 ∧ j < i) from ⟨rfl, c⟩)]
      by_cases d : a ≤ j
      · rw [if_pos d, if_pos ⟨Or.inr rfl, d, c⟩]
      · rw [if_neg d, if_neg (fun q => d q.2.1)]
    · rw [if_neg (fun q => c q.2.2), if_neg (fun q => c q.2), if_neg (fun q => c q.2)]
  · rw [if_neg (show ¬ (f = 9 ∧ j < i) from fun q => h9 q.1)]
    by_cases h8 : f = 8
    · subst h8
      by_cases c : j < i
      · rw [if_pos (show (8 = 8 ∧ j < i) from ⟨rfl, c⟩)]
        by_cases d : a ≤ j
        · rw [if_pos d, if_pos ⟨Or.inl rfl, d, c⟩]
        · rw [if_neg d, if_neg (fun q => d q.2.1)]
      · rw [if_neg (fun q => c q.2.2), if_neg (fun q => c q.2)]
    · rw [if_neg (fun q => q.1.elim h8 h9), if_neg (fun q => h8 q.1)]
theorem zOk.un {k l p : Nat} (h : zOk T σ) (hk : k < 40) (hl : l ≤ 3) : zOk (zunT T k l p) (zun σ k l p) := by
  unfold zunT zun
  rw [zsh_rw, h.2]
  exact ((h.rw (f := 8) (show 3 * k + l ≤ 120 by omega) (by decide)).rw (f := 9) (show 3 * k + l ≤ 120 by omega) (by decide)).ut (f := 7) hk
noncomputable def zwvT (T : zT) (W : Nat) (f c w s l : Int32) : zT := zut (zut (zut (zut (zut (zut T 18 W f) 19 W c) 20 W w) 21 W s) 22 W l) 17 0 (nI (W + 1))
theorem zOk.wv {W : Nat} {f c w s l : Int32} (h : zOk T σ) (hW : W < 20) : zOk (zwvT T W f c w s l) (zwv σ W f c w s l) :=
  (((((h.ut (f := 18) hW).ut (f := 19) hW).ut (f := 20) hW).ut (f := 21) hW).ut (f := 22) hW).ut (f := 17) (show 0 < 1 by decide)
noncomputable def zsoT (T : zT) (S k : Nat) : zT := zut (zut (zut T 24 S (nI k)) 25 S (zD T 16 0)) 23 0 (nI (S + 1))
theorem zOk.so {S k : Nat} (h : zOk T σ) (hS : S < 30) : zOk (zsoT T S k) (zso σ S k) := by
  unfold zsoT zso
  rw [h.2]
  exact ((h.ut (f := 24) hS).ut (f := 25) hS).ut (f := 23) (show 0 < 1 by decide)
noncomputable def zmvT (T : zT) (n : Nat) : zT := zrwT (zrwT T 2 n (zcl' (zD T))) 3 n (zwy (zD T))
theorem zOk.mv (h : zOk T σ) (hn : n ≤ 40) : zOk (zmvT T n) (zmv σ n) := by
  unfold zmvT zmv
  rw [h.2]
  exact (h.rw (f := 2) hn (by decide)).rw (f := 3) hn (by decide)
noncomputable def zhrT (T : zT) (n : Nat) : zT := zrwT T 5 n (fun k => zD T 5 k - zme (zD T) k n)
theorem zOk.hr (h : zOk T σ) (hn : n ≤ 40) : zOk (zhrT T n) (zhr σ n n) := by
  unfold zhrT zhr
  rw [h.2]
  exact h.rw (f := 5) hn (by decide)
noncomputable def zmkT (T : zT) (n : Nat) : zT := zut (zrwT (zut T 14 0 (nI n)) 15 n (zD (zut T 14 0 (nI n)) 10)) 13 0 (nI 0)
theorem zOk.mk (h : zOk T σ) (hn : n ≤ 40) : zOk (zmkT T n) (zmk σ n) := by
  have h1 := h.ut (f := 14) (k := 0) (x := nI n) (by decide)
  unfold zmkT zmk
  rw [h1.2]
  exact (h1.rw (f := 15) hn (by decide)).ut (f := 13) (by decide)
noncomputable def zlkT (T : zT) (s : Nat) : zT := zut (zut T 11 s (zlv1 (zD T) s)) 13 0 (if s = 11 then -nI 1 else nI (s + 1))
theorem zOk.lk {s : Nat} (h : zOk T σ) (hs : s < 12) : zOk (zlkT T s) (zlk σ s) := by
  unfold zlkT zlk
  rw [h.2]
  exact (h.ut (f := 11) hs).ut (f := 13) (by decide)
noncomputable def zgeT (n : Nat) : Nat → Nat → zT → zT
  | 0, _, T => T
  | f + 1, b, T => if zD T 13 0 < 0 then (if b < 4 then T else zgeT n f (b - 4) (zmkT T n)) else (if b < 1 then T else zgeT n f (b - 1) (zlkT T (zD T 13 0).toNatClampNeg))
theorem zOk.ge (hn : n ≤ 40) : ∀ (f b : Nat) (T : zT) (σ : Nat → Nat → Int32), zOk T σ → zW0 σ n → zW11 σ n → zW13 σ n → zOk (zgeT n f b T) (zge n f b σ)
  | 0, b, T, σ, h, _, _, _ => h
  | f + 1, b, T, σ, h, w0, w11, w13 => by
    unfold zgeT zge
    rw [h.2]
    by_cases c : σ 13 0 < 0
    · rw [if_pos c, if_pos c]
      by_cases d : b < 4
      · rw [if_pos d, if_pos d]; exact h
      · rw [if_neg d, if_neg d]
        have w := zmk_W w0 w11
        exact zOk.ge hn f (b - 4) _ _ (h.mk hn) w.1 w.2.1 w.2.2
    · rw [if_neg c, if_neg c]
      by_cases d : b < 1
      · rw [if_pos d, if_pos d]; exact h
      · rw [if_neg d, if_neg d]
        rcases w13.1 with e | ⟨s, hs, e⟩
        · exact absurd (by rw [e]; exact n1neg) c
        · have es : (σ 13 0).toNatClampNeg = s := by rw [e, nI_clamp (by omega)]
          rw [es]
          have w := zlk_W w0 w11 w13 hs
          exact zOk.ge hn f (b - 1) _ _ (h.lk hs) w.1 w.2.1 w.2.2
/-- wave k at its frame: the lists, how many have come -/
noncomputable def zwsT (q : zT × Nat) (k : Nat) : Option (zT × Nat) := if zD q.1 18 k = zD q.1 16 0 ∧ zcn (zheld (zD q.1)) q.2 < 8 ∧ q.2 < 40 then (match zhT (zcmT (zcsT q.1) q.2 (zslo (zD q.1)) (zD q.1 19 k) (zD q.1 20 k) (zD q.1 21 k) (zD q.1 22 k) (nI 1)) (q.2 + 1) with
  | none => none
  | some T' => some (T', q.2 + 1)) else some q
noncomputable def zwLT (q : zT × Nat) : Nat → Option (zT × Nat)
  | 0 => some q
  | k + 1 => match zwLT q k with
    | none => none
    | some q' => zwsT q' k
/-- a spawn's rows ahead of the holding -/
theorem zOk.come {c w sd l r : Int32} (h : zOk T σ) (ia : zIA σ n) (ib : zIB σ n) (hn : n < 40) (h8 : zcn (zheld σ) n < 8) : zOk (zcmT (zcsT T) n (zslo (zD T)) c w sd l r) (zcm (zcs σ) n (zslo σ) c w sd l r) := by
  obtain ⟨e, rm⟩ := ia.rm ib hn h8
  rw [h.2]
  exact h.cs.cm rm.2.2.2.2.2.1 hn
theorem zcome_W7 {c w sd l r : Int32} (ia : zIA σ n) : zW7 (zcm (zcs σ) n (zslo σ) c w sd l r) (n + 1) := zcm_W7 ia.w7 (ia.bey n (Nat.le_refl n)).1
theorem zwsT_ok {k : Nat} {q' : zT × Nat} (h : zOk T σ) (iv : zIV σ) (en : znu σ = n) (hk : k < znw σ) (e : zwsT (T, n) k = some q') : zOk q'.1 (zws σ k) ∧ znu (zws σ k) = q'.2 := by
  have hD := h.2
  unfold zwsT at e
  simp only at e
  unfold zws
  rw [en]
  by_cases c : σ 18 k = σ 16 0 ∧ zcn (zheld σ) n < 8 ∧ n < 40
  · rw [if_pos (by rw [hD]; exact c)] at e
    rw [if_pos c]
    have ia : zIA σ n := by rw [← en]; exact iv.1
    have ib : zIB σ n := by rw [← en]; exact iv.2
    cases hh : zhT (zcmT (zcsT T) n (zslo (zD T)) (zD T 19 k) (zD T 20 k) (zD T 21 k) (zD T 22 k) (nI 1)) (n + 1) with
    | none => rw [hh] at e; cases e
    | some T1 =>
      rw [hh] at e
      cases e
      have h1 := h.come (c := σ 19 k) (w := σ 20 k) (sd := σ 21 k) (l := σ 22 k) (r := nI 1) ia ib c.2.2 c.2.1
      rw [show zD T 19 k = σ 19 k by rw [hD], show zD T 20 k = σ 20 k by rw [hD], show zD T 21 k = σ 21 k by rw [hD], show zD T 22 k = σ 22 k by rw [hD]] at hh
      refine ⟨zhT_ok h1 (by omega) (zcome_W7 ia) hh, ?_⟩
      unfold znu
      rw [zho_n (by decide)]
      have : zcm (zcs σ) n (zslo σ) (σ 19 k) (σ 20 k) (σ 21 k) (σ 22 k) (nI 1) 0 0 = nI (n + 1) := by unfold zcm; rw [zup_s]
      rw [this, nI_clamp (by omega)]
  · rw [if_neg (by rw [hD]; exact c)] at e
    rw [if_neg c]
    cases e
    exact ⟨h, en⟩
theorem zwLT_ok (h : zOk T σ) (iv : zIV σ) (en : znu σ = n) : ∀ (k : Nat) (q' : zT × Nat), k ≤ znw σ → zwLT (T, n) k = some q' → zOk q'.1 (zwL σ k) ∧ znu (zwL σ k) = q'.2
  | 0, q', hk, e => by cases e; exact ⟨h, en⟩
  | k + 1, q', hk, e => by
    unfold zwLT at e
    cases h1 : zwLT (T, n) k with
    | none => rw [h1] at e; cases e
    | some q1 =>
      rw [h1] at e
      obtain ⟨a, b⟩ := zwLT_ok h iv en k q1 (by omega) h1
      obtain ⟨T1, n1⟩ := q1
      exact zwsT_ok a (iv.wL k (by omega)) b (by rw [znw_L]; omega) e
/-- the lists behind the waves of a frame -/
noncomputable def zfrT (T : zT) (n b : Nat) : Option zT := match zhT (zhrT (zmvT T n) n) n with
  | none => none
  | some T1 => some (zgeT n b b T1)
theorem zfrT_ok {b : Nat} (h : zOk T σ) (ia : zIA σ n) (e : zfrT T n b = some T') : zOk T' (zfrm σ n b) := by
  have hN := ia.w0.2
  unfold zfrT at e
  cases h1 : zhT (zhrT (zmvT T n) n) n with
  | none => rw [h1] at e; cases e
  | some T1 =>
    rw [h1] at e
    cases e
    have w7 : zW7 (zhr (zmv σ n) n n) n := ia.w7.row (by unfold zhr; rw [zrw_n (by decide), zmv_n (by decide) (by decide)]) (by unfold zhr; rw [zrw_n (by decide), zmv_n (by decide) (by decide)])
    have k1 := zhT_ok ((h.mv hN).hr hN) hN w7 h1
    have ih := ia.hits
    exact zOk.ge hN b b T1 _ k1 ih.w0 ih.w11 ih.w13
end TWINS
