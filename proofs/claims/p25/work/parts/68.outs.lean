/-! ===== each call of the class, over the law's memory: what it answers, what rows it leaves ===== -/
section OUTS
variable {b de h mi n L cc ss : Nat} {xs : Nat → Int32} {μ : zM} {σ : Nat → Nat → Int32} {Q : zRes → zM → Prop}
theorem zfd_ex {x : Int32} (hN : n ≤ 40) (hne : zfd σ x n ≠ -nI 1) : ∃ k, k < n ∧ σ 10 k ≠ 0 ∧ σ 1 k = x ∧ zfd σ x n = nI k ∧ (zfd σ x n).toNatClampNeg = k := by
  rcases zfd_is σ x n with ⟨e, -⟩ | ⟨k, hk, h1, h2, e⟩
  · exact absurd e hne
  · exact ⟨k, hk, h1, h2, e, by rw [e, nI_clamp (by omega)]⟩
theorem O16a {x c w s l : Int32} (q : zS1 b de h L xs σ n cc ss μ) (hx : x ≠ -nI 1) (hv : zfd σ x n = -nI 1) (hq : ∀ μ', zS1 b de h L xs σ n (cc + 1) (ss + 6) μ' → Q (.inr 0) μ') : zCall de mi 16 [.ref h, .int x, .int c, .int w, .int s, .int l] μ Q := by
  obtain ⟨mt, ⟨A, K, B, V, N, H⟩, ia, ib⟩ := id q
  rw [C16a H ia.w0.2 hx hv]
  exact hq _ q.thr
theorem O16b {x c w s l : Int32} (q : zS1 b de h L xs σ n cc ss μ) (hx : x = -nI 1 ∨ zfd σ x n ≠ -nI 1) (hr : zrt c w s l = 0) (hq : ∀ μ', zS1 b de h L xs σ n (cc + 1) (ss + 6) μ' → Q (.inr 1) μ') : zCall de mi 16 [.ref h, .int x, .int c, .int w, .int s, .int l] μ Q := by
  obtain ⟨mt, ⟨A, K, B, V, N, H⟩, ia, ib⟩ := id q
  by_cases h1 : x = -nI 1
  · rw [C16b H ia.w0.2 ia.uq (v := .null) (Or.inl ⟨h1, rfl⟩) hr]
    exact hq _ q.thr
  · obtain ⟨k, hk, -, -, hv, -⟩ := zfd_ex ia.w0.2 (hx.resolve_left h1)
    rw [C16b H ia.w0.2 ia.uq (v := .ref (A k)) (Or.inr ⟨k, h1, hk, hv, rfl⟩) hr]
    exact hq _ q.thr
theorem O16c {x c w s l : Int32} (q : zS1 b de h L xs σ n cc ss μ) (hx : x = -nI 1 ∨ zfd σ x n ≠ -nI 1) (hr : zrt c w s l ≠ 0) (hf : ¬ (n < 40 ∧ zcn (zheld σ) n < 8)) (hq : ∀ μ', zS1 b de h L xs σ n (cc + 1) (ss + 6) μ' → Q (.inr 2) μ') : zCall de mi 16 [.ref h, .int x, .int c, .int w, .int s, .int l] μ Q := by
  obtain ⟨mt, ⟨A, K, B, V, N, H⟩, ia, ib⟩ := id q
  by_cases h1 : x = -nI 1
  · rw [C16c H ia.w0.2 ia.uq (v := .null) (Or.inl ⟨h1, rfl⟩) hr hf]
    exact hq _ q.thr
  · obtain ⟨k, hk, -, -, hv, -⟩ := zfd_ex ia.w0.2 (hx.resolve_left h1)
    rw [C16c H ia.w0.2 ia.uq (v := .ref (A k)) (Or.inr ⟨k, h1, hk, hv, rfl⟩) hr hf]
    exact hq _ q.thr
theorem O16d {x c w s l : Int32} {k : Nat} (q : zS1 b de h L xs σ n cc ss μ) (hx : x ≠ -nI 1) (hv : zfd σ x n = nI k) (hk : k < n) (hr : zrt c w s l ≠ 0) (hf : n < 40 ∧ zcn (zheld σ) n < 8) (h3 : σ 7 k = nI 3) (hq : ∀ μ', zS1 b de h L xs σ n (cc + 1) (ss + 6) μ' → Q (.inr 2) μ') : zCall de mi 16 [.ref h, .int x, .int c, .int w, .int s, .int l] μ Q := by
  obtain ⟨mt, ⟨A, K, B, V, N, H⟩, ia, ib⟩ := id q
  rw [C16d H ia.w0.2 ia.uq hx hv hk hr hf h3]
  exact hq _ q.thr
theorem O16e {c w sd l : Int32} (q : zS1 b de h L xs σ n cc ss μ) (hr : zrt c w sd l ≠ 0) (hf : n < 40 ∧ zcn (zheld σ) n < 8) (hq : ∀ μ', zS1 b de h L xs (zho (zcm (zcs σ) n (zslo σ) c w sd l (nI 1)) (n + 1)) (n + 1) (cc + 3) (ss + 83) μ' → Q (.inl (some (.int (zho (zcm (zcs σ) n (zslo σ) c w sd l (nI 1)) (n + 1) 1 n)))) μ') : zCall de mi 16 [.ref h, .int (-nI 1), .int c, .int w, .int sd, .int l] μ Q := by
  obtain ⟨mt, ⟨A, K, B, V, N, H⟩, ia, ib⟩ := id q
  obtain ⟨es, rm⟩ := ia.rm ib hf.1 hf.2
  refine C16e H ia.uq zMd0 rm hr hf.2 (fun μ1 A1 K1 H1 kp1 => hq μ1 (q.to kp1 H1 ?_ ?_))
  · exact ia.cs.root hf.1 rm.2.2.2.2.2.1 hr (by rw [zheld_cs]; exact hf.2)
  · exact ib.succ.row (fun f h1 h2 => by rw [zho_n (by omega), zcm_7 (by omega), zcs_n (by omega) (by omega)])
theorem O16f {x c w sd l : Int32} {k j : Nat} (q : zS1 b de h L xs σ n cc ss μ) (hx : x ≠ -nI 1) (hv : zfd σ x n = nI k) (hk : k < n) (hr : zrt c w sd l ≠ 0) (hf : n < 40 ∧ zcn (zheld σ) n < 8) (h3 : σ 7 k = nI j) (hj3 : j < 3) (hq : ∀ μ', zS1 b de h L xs (zho (ztie (zcm (zcs σ) n (zslo σ) c w sd l (nI 0)) k j (nI n) (nI 0)) (n + 1)) (n + 1) (cc + 5) (ss + 155) μ' → Q (.inl (some (.int (zho (ztie (zcm (zcs σ) n (zslo σ) c w sd l (nI 0)) k j (nI n) (nI 0)) (n + 1) 1 n)))) μ') : zCall de mi 16 [.ref h, .int x, .int c, .int w, .int sd, .int l] μ Q := by
  obtain ⟨mt, ⟨A, K, B, V, N, H⟩, ia, ib⟩ := id q
  obtain ⟨es, rm⟩ := ia.rm ib hf.1 hf.2
  have h7c : zcs σ 7 k = nI j := by rw [zcs_n (by decide) (by decide)]; exact h3
  refine C16f H ia.uq zMd0 rm hx hv hk hr hf.2 h3 hj3 (fun μ1 A1 K1 B1 H1 kp1 => hq μ1 (q.to kp1 H1 ?_ ?_))
  · exact ia.cs.kept hf.1 rm.2.2.2.2.2.1 hr (by rw [zheld_cs]; exact hf.2) hk h7c hj3
  · exact ib.succ.row (fun f h1 h2 => by rw [zho_n (by omega), ztie_n (by omega) (by omega) (by omega), zcm_7 (by omega), zcs_n (by omega) (by omega)])
theorem O17a {x : Int32} (q : zS1 b de h L xs σ n cc ss μ) (hv : zfd σ x n = -nI 1) (hq : ∀ μ', zS1 b de h L xs σ n (cc + 1) (ss + 6) μ' → Q (.inr 0) μ') : zCall de mi 17 [.ref h, .int x] μ Q := by
  obtain ⟨mt, ⟨A, K, B, V, N, H⟩, ia, ib⟩ := id q
  rw [C17a H ia.w0.2 hv]
  exact hq _ q.thr
theorem O17b {x : Int32} {k : Nat} (q : zS1 b de h L xs σ n cc ss μ) (hv : zfd σ x n = nI k) (hk : k < n) (h6 : σ 6 k = 0) (hq : ∀ μ', zS1 b de h L xs σ n (cc + 1) (ss + 6) μ' → Q (.inr 2) μ') : zCall de mi 17 [.ref h, .int x] μ Q := by
  obtain ⟨mt, ⟨A, K, B, V, N, H⟩, ia, ib⟩ := id q
  rw [C17b H ia.w0.2 ia.uq hv hk h6]
  exact hq _ q.thr
theorem O17c {x : Int32} {k : Nat} (q : zS1 b de h L xs σ n cc ss μ) (hv : zfd σ x n = nI k) (hk : k < n) (h6 : σ 6 k ≠ 0) (hq : ∀ μ', zS1 b de h L xs (zho (zup σ 6 k (nI 0)) n) n cc ss μ' → Q (.inl (some (.int (nI (zcn (zheld (zho (zup σ 6 k (nI 0)) n)) n))))) μ') : zCall de mi 17 [.ref h, .int x] μ Q := by
  obtain ⟨mt, ⟨A, K, B, V, N, H⟩, ia, ib⟩ := id q
  refine C17c H ia.w0.2 ia.uq hv hk h6 ia.w7 ia.w9 ia.w11 (fun μ1 H1 kp1 => hq μ1 (q.to kp1 H1 ia.unroot ?_))
  exact ib.row (fun f h1 h2 => by rw [zho_n (by omega), zup_f (by omega)])
theorem O18a {x y kd : Int32} (q : zS1 b de h L xs σ n cc ss μ) (hv : zfd σ x n = -nI 1 ∨ zfd σ y n = -nI 1 ∨ zin kd (nI 0) (nI 2) = 0) (hq : ∀ μ', zS1 b de h L xs σ n (cc + 1) (ss + 6) μ' → Q (.inr 0) μ') : zCall de mi 18 [.ref h, .int x, .int y, .int kd] μ Q := by
  obtain ⟨mt, ⟨A, K, B, V, N, H⟩, ia, ib⟩ := id q
  have hN := ia.w0.2
  have key : zfd σ x n = -nI 1 ∨ (∃ k, k < n ∧ zfd σ x n = nI k) ∧ (zfd σ y n = -nI 1 ∨ (∃ t, t < n ∧ zfd σ y n = nI t) ∧ zin kd (nI 0) (nI 2) = 0) := by
    by_cases h1 : zfd σ x n = -nI 1
    · exact Or.inl h1
    · obtain ⟨k, hk, -, -, e, -⟩ := zfd_ex hN h1
      refine Or.inr ⟨⟨k, hk, e⟩, ?_⟩
      by_cases h2 : zfd σ y n = -nI 1
      · exact Or.inl h2
      · obtain ⟨t, ht, -, -, e2, -⟩ := zfd_ex hN h2
        exact Or.inr ⟨⟨t, ht, e2⟩, (hv.resolve_left h1).resolve_left h2⟩
  rw [C18a H hN ia.uq key]
  exact hq _ q.thr
theorem O18b {x y kd : Int32} {k : Nat} (q : zS1 b de h L xs σ n cc ss μ) (hv : zfd σ x n = nI k) (hk : k < n) (hw : zfd σ y n = nI k) (hz : zin kd (nI 0) (nI 2) ≠ 0) (hq : ∀ μ', zS1 b de h L xs σ n (cc + 1) (ss + 6) μ' → Q (.inr 1) μ') : zCall de mi 18 [.ref h, .int x, .int y, .int kd] μ Q := by
  obtain ⟨mt, ⟨A, K, B, V, N, H⟩, ia, ib⟩ := id q
  rw [C18b H ia.w0.2 ia.uq hv hk hw hz]
  exact hq _ q.thr
theorem O18c {x y kd : Int32} {k t : Nat} (q : zS1 b de h L xs σ n cc ss μ) (hv : zfd σ x n = nI k) (hk : k < n) (hw : zfd σ y n = nI t) (ht : t < n) (hz : zin kd (nI 0) (nI 2) ≠ 0) (hkt : k ≠ t) (h3 : σ 7 k = nI 3) (hq : ∀ μ', zS1 b de h L xs σ n (cc + 1) (ss + 6) μ' → Q (.inr 2) μ') : zCall de mi 18 [.ref h, .int x, .int y, .int kd] μ Q := by
  obtain ⟨mt, ⟨A, K, B, V, N, H⟩, ia, ib⟩ := id q
  rw [C18c H ia.w0.2 ia.uq hv hk hw ht hz hkt h3]
  exact hq _ q.thr
theorem O18d {x y kd : Int32} {k t l : Nat} (q : zS1 b de h L xs σ n cc ss μ) (hv : zfd σ x n = nI k) (hk : k < n) (hw : zfd σ y n = nI t) (ht : t < n) (hth : σ 10 t ≠ 0) (hz : zin kd (nI 0) (nI 2) ≠ 0) (hkt : k ≠ t) (hl : σ 7 k = nI l) (hl3 : l < 3) (hq : ∀ μ', zS1 b de h L xs (ztie σ k l (nI t) kd) n (cc + 2) (ss + 72) μ' → Q (.inl (some (.int (nI (l + 1))))) μ') : zCall de mi 18 [.ref h, .int x, .int y, .int kd] μ Q := by
  obtain ⟨mt, ⟨A, K, B, V, N, H⟩, ia, ib⟩ := id q
  refine C18d H ia.w0.2 ia.w7 ia.w11 zMd0 ia.uq hv hk hw ht hz hkt hl hl3 (fun μ1 B1 H1 kp1 => hq μ1 (q.to kp1 H1 (ia.tie hk ht hl hl3 hth (zin_k1 hz)) ?_))
  exact ib.row (fun f h1 h2 => ztie_n (by omega) (by omega) (by omega))
theorem O19a {x p : Int32} (q : zS1 b de h L xs σ n cc ss μ) (hv : zfd σ x n = -nI 1) (hq : ∀ μ', zS1 b de h L xs σ n (cc + 1) (ss + 6) μ' → Q (.inr 0) μ') : zCall de mi 19 [.ref h, .int x, .int p] μ Q := by
  obtain ⟨mt, ⟨A, K, B, V, N, H⟩, ia, ib⟩ := id q
  rw [C19a H ia.w0.2 hv]
  exact hq _ q.thr
theorem O19b {x p : Int32} {k : Nat} (q : zS1 b de h L xs σ n cc ss μ) (hv : zfd σ x n = nI k) (hk : k < n) (hp : zin p (nI 0) (σ 7 k - nI 1) = 0) (hq : ∀ μ', zS1 b de h L xs σ n (cc + 1) (ss + 6) μ' → Q (.inr 0) μ') : zCall de mi 19 [.ref h, .int x, .int p] μ Q := by
  obtain ⟨mt, ⟨A, K, B, V, N, H⟩, ia, ib⟩ := id q
  obtain ⟨l, hl3, hl⟩ := ia.w7.1 k hk
  rw [C19b H ia.w0.2 ia.uq hv hk hl hl3 hp]
  exact hq _ q.thr
theorem O19c {x : Int32} {k l p : Nat} (q : zS1 b de h L xs σ n cc ss μ) (hv : zfd σ x n = nI k) (hk : k < n) (hl : σ 7 k = nI (l + 1)) (hl3 : l < 3) (hp : p ≤ l) (hq : ∀ μ', zS1 b de h L xs (zho (zun σ k l p) n) n (cc + 1) (ss + 70) μ' → Q (.inl (some (.int (nI (zcn (zheld (zho (zun σ k l p) n)) n))))) μ') : zCall de mi 19 [.ref h, .int x, .int (nI p)] μ Q := by
  obtain ⟨mt, ⟨A, K, B, V, N, H⟩, ia, ib⟩ := id q
  have w := zun_W ia.w7 ia.w9 hk hl hl3 hp
  refine C19c H ia.w0.2 ia.w7 ia.w11 ia.uq hv hk hl hl3 hp w.1 w.2 (fun μ1 B1 H1 kp1 => hq μ1 (q.to kp1 H1 (ia.untie hk hl hl3 hp) ?_))
  exact ib.row (fun f h1 h2 => by rw [zho_n (by omega), zun_n (by omega) (by omega) (by omega)])
theorem O20 {x : Int32} (q : zS1 b de h L xs σ n cc ss μ) (hq : Q (.inl (some (.int (if zfd σ x n = -nI 1 then nI 0 else nI 1)))) μ) : zCall de mi 20 [.ref h, .int x] μ Q := by
  obtain ⟨mt, ⟨A, K, B, V, N, H⟩, ia, ib⟩ := id q
  by_cases hv : zfd σ x n = -nI 1
  · rw [C20b H ia.w0.2 hv]
    rw [if_pos hv] at hq; exact hq
  · obtain ⟨k, hk, -, -, e, -⟩ := zfd_ex ia.w0.2 hv
    rw [C20a H ia.w0.2 ia.uq e hk]
    rw [if_neg hv] at hq; exact hq
theorem O21 (q : zS1 b de h L xs σ n cc ss μ) (hq : Q (.inl (some (.int (nI (zcn (zheld σ) n))))) μ) : zCall de mi 21 [.ref h] μ Q := by
  obtain ⟨mt, ⟨A, K, B, V, N, H⟩, ia, ib⟩ := id q
  rw [C21 H ia.w0.2]
  exact hq
theorem O22a {x : Int32} (q : zS1 b de h L xs σ n cc ss μ) (hv : zfd σ x n = -nI 1) (hq : ∀ μ', zS1 b de h L xs σ n (cc + 1) (ss + 6) μ' → Q (.inr 0) μ') : zCall de mi 22 [.ref h, .int x] μ Q := by
  obtain ⟨mt, ⟨A, K, B, V, N, H⟩, ia, ib⟩ := id q
  rw [C22b H ia.w0.2 hv]
  exact hq _ q.thr
theorem O22b {x : Int32} {k : Nat} (q : zS1 b de h L xs σ n cc ss μ) (hv : zfd σ x n = nI k) (hk : k < n) (hq : Q (.inl (some (.int (nI k)))) μ) : zCall de mi 22 [.ref h, .int x] μ Q := by
  obtain ⟨mt, ⟨A, K, B, V, N, H⟩, ia, ib⟩ := id q
  rw [C22a H ia.w0.2 ia.uq hv hk]
  exact hq
theorem O23a {x : Int32} (q : zS1 b de h L xs σ n cc ss μ) (hv : zfd σ x n = -nI 1) (hq : ∀ μ', zS1 b de h L xs σ n (cc + 1) (ss + 6) μ' → Q (.inr 0) μ') : zCall de mi 23 [.ref h, .int x] μ Q := by
  obtain ⟨mt, ⟨A, K, B, V, N, H⟩, ia, ib⟩ := id q
  rw [C23b H ia.w0.2 hv]
  exact hq _ q.thr
theorem O23b {x : Int32} {k : Nat} (q : zS1 b de h L xs σ n cc ss μ) (hv : zfd σ x n = nI k) (hk : k < n) (hq : Q (.inl (some (.int (σ 2 k)))) μ) : zCall de mi 23 [.ref h, .int x] μ Q := by
  obtain ⟨mt, ⟨A, K, B, V, N, H⟩, ia, ib⟩ := id q
  rw [C23a H ia.w0.2 ia.uq hv hk]
  exact hq
theorem O24a {x : Int32} (q : zS1 b de h L xs σ n cc ss μ) (hv : zfd σ x n = -nI 1) (hq : ∀ μ', zS1 b de h L xs σ n (cc + 1) (ss + 6) μ' → Q (.inr 0) μ') : zCall de mi 24 [.ref h, .int x] μ Q := by
  obtain ⟨mt, ⟨A, K, B, V, N, H⟩, ia, ib⟩ := id q
  rw [C24b H ia.w0.2 hv]
  exact hq _ q.thr
theorem O24b {x : Int32} {k : Nat} (q : zS1 b de h L xs σ n cc ss μ) (hv : zfd σ x n = nI k) (hk : k < n) (hq : Q (.inl (some (.int (σ 5 k)))) μ) : zCall de mi 24 [.ref h, .int x] μ Q := by
  obtain ⟨mt, ⟨A, K, B, V, N, H⟩, ia, ib⟩ := id q
  rw [C24a H ia.w0.2 ia.uq hv hk]
  exact hq
theorem O25a {x p : Int32} (q : zS1 b de h L xs σ n cc ss μ) (hv : zfd σ x n = -nI 1) (hq : ∀ μ', zS1 b de h L xs σ n (cc + 1) (ss + 6) μ' → Q (.inr 0) μ') : zCall de mi 25 [.ref h, .int x, .int p] μ Q := by
  obtain ⟨mt, ⟨A, K, B, V, N, H⟩, ia, ib⟩ := id q
  rw [C25a H ia.w0.2 hv]
  exact hq _ q.thr
theorem O25b {x p : Int32} {k : Nat} (q : zS1 b de h L xs σ n cc ss μ) (hv : zfd σ x n = nI k) (hk : k < n) (hp : zin p (nI 0) (σ 7 k - nI 1) = 0) (hq : ∀ μ', zS1 b de h L xs σ n (cc + 1) (ss + 6) μ' → Q (.inr 0) μ') : zCall de mi 25 [.ref h, .int x, .int p] μ Q := by
  obtain ⟨mt, ⟨A, K, B, V, N, H⟩, ia, ib⟩ := id q
  obtain ⟨l, hl3, hl⟩ := ia.w7.1 k hk
  rw [C25b H ia.w0.2 ia.uq hv hk hl hl3 hp]
  exact hq _ q.thr
theorem O25c {x p : Int32} {k : Nat} (q : zS1 b de h L xs σ n cc ss μ) (hv : zfd σ x n = nI k) (hk : k < n) (hp : zin p (nI 0) (σ 7 k - nI 1) ≠ 0) (hq : Q (.inl (some (.int (if σ 10 (ztg σ (3 * k + p.toNatClampNeg)) = 0 then -nI 1 else σ 1 (ztg σ (3 * k + p.toNatClampNeg)))))) μ) : zCall de mi 25 [.ref h, .int x, .int p] μ Q := by
  obtain ⟨mt, ⟨A, K, B, V, N, H⟩, ia, ib⟩ := id q
  have hN := ia.w0.2
  obtain ⟨l, hl3, hl⟩ := ia.w7.1 k hk
  rw [hl] at hp
  obtain ⟨j, hj, ej⟩ := zpl2 hl3 hp
  subst ej
  obtain ⟨t, ht, et⟩ := ia.w7.at hk hl hl3 hj
  have e1 : ztg σ (3 * k + (nI j).toNatClampNeg) = t := by rw [nI_clamp (by omega)]; unfold ztg; rw [et, nI_clamp (by omega)]
  rw [e1] at hq
  rw [C25c H hN ia.uq hv hk hl hl3 hj et ht]
  exact hq
theorem O26a {x : Int32} (q : zS1 b de h L xs σ n cc ss μ) (hv : zfd σ x n = -nI 1) (hq : ∀ μ', zS1 b de h L xs σ n (cc + 1) (ss + 6) μ' → Q (.inr 0) μ') : zCall de mi 26 [.ref h, .int x] μ Q := by
  obtain ⟨mt, ⟨A, K, B, V, N, H⟩, ia, ib⟩ := id q
  rw [C26b H ia.w0.2 hv]
  exact hq _ q.thr
theorem O26b {x : Int32} {k : Nat} (q : zS1 b de h L xs σ n cc ss μ) (hv : zfd σ x n = nI k) (hk : k < n) (hq : Q (.inl (some (.int (nI (zcn (zct σ (nI k)) (3 * n)))))) μ) : zCall de mi 26 [.ref h, .int x] μ Q := by
  obtain ⟨mt, ⟨A, K, B, V, N, H⟩, ia, ib⟩ := id q
  rw [C26a H ia.w0.2 ia.uq ia.w7 hv hk]
  exact hq
theorem O27a {f c w s l : Int32} (q : zS1 b de h L xs σ n cc ss μ) (hf : zin f (σ 16 0) (nI 500) = 0 ∨ zrt c w s l = 0) (hq : ∀ μ', zS1 b de h L xs σ n (cc + 1) (ss + 6) μ' → Q (.inr 1) μ') : zCall de mi 27 [.ref h, .int f, .int c, .int w, .int s, .int l] μ Q := by
  obtain ⟨mt, ⟨A, K, B, V, N, H⟩, ia, ib⟩ := id q
  rw [C27a H hf]
  exact hq _ q.thr
theorem O27b {f c w s l : Int32} (q : zS1 b de h L xs σ n cc ss μ) (h1 : zin f (σ 16 0) (nI 500) ≠ 0) (h2 : zrt c w s l ≠ 0) (h3 : σ 17 0 = nI 20) (hq : ∀ μ', zS1 b de h L xs σ n (cc + 1) (ss + 6) μ' → Q (.inr 2) μ') : zCall de mi 27 [.ref h, .int f, .int c, .int w, .int s, .int l] μ Q := by
  obtain ⟨mt, ⟨A, K, B, V, N, H⟩, ia, ib⟩ := id q
  rw [C27b H h1 h2 h3]
  exact hq _ q.thr
theorem O27c {f x w s l : Int32} (q : zS1 b de h L xs σ n cc ss μ) (h1 : zin f (σ 16 0) (nI 500) ≠ 0) (h2 : zrt x w s l ≠ 0) (h3 : σ 17 0 ≠ nI 20) (hq : ∀ μ', zS1 b de h L xs (zwv σ (znw σ) f x w s l) n (cc + 2) (ss + 75) μ' → Q (.inl (some (.int (nI (znw σ + 1))))) μ') : zCall de mi 27 [.ref h, .int f, .int x, .int w, .int s, .int l] μ Q := by
  obtain ⟨mt, ⟨A, K, B, V, N, H⟩, ia, ib⟩ := id q
  obtain ⟨W, hW, eW, tr⟩ := ib.1
  have enw : znw σ = W := by unfold znw; rw [eW, nI_clamp (by omega)]
  rw [enw] at hq
  have hW2 : W < 20 := by
    have : W ≠ 20 := fun e => h3 (by rw [eW, e])
    omega
  refine C27c H ia.w0.2 ia.w11 zMd0 h1 h2 eW hW2 (fun μ1 V1 H1 kp1 => hq μ1 (q.to kp1 H1 ?_ ?_))
  · exact ia.row (fun g hg => by unfold zwv; rw [zup_f (by omega), zup_f (by omega), zup_f (by omega), zup_f (by omega), zup_f (by omega), zup_f (by omega)])
  · have r : ∀ g, g < 17 ∨ 22 < g → zwv σ W f x w s l g = σ g := fun g hg => by unfold zwv; rw [zup_f (by omega), zup_f (by omega), zup_f (by omega), zup_f (by omega), zup_f (by omega), zup_f (by omega)]
    have ro : ∀ g k, k ≠ W → 18 ≤ g → zwv σ W f x w s l g k = σ g k := fun g k hk hg => by unfold zwv; rw [zup_f (by omega), zup_k hk, zup_k hk, zup_k hk, zup_k hk, zup_k hk]
    obtain ⟨a1, a2, a3, a4⟩ := ib
    refine ⟨⟨W + 1, by omega, by unfold zwv; rw [zup_s], fun k hk => ?_⟩, ?_, ?_, ?_⟩
    · by_cases qq : k = W
      · have e19 : zwv σ W f x w s l 19 W = x := by unfold zwv; simp [zup]
        have e20 : zwv σ W f x w s l 20 W = w := by unfold zwv; simp [zup]
        have e21 : zwv σ W f x w s l 21 W = s := by unfold zwv; simp [zup]
        have e22 : zwv σ W f x w s l 22 W = l := by unfold zwv; simp [zup]
        rw [qq, e19, e20, e21, e22]; exact h2
      · rw [ro 19 k qq (by decide), ro 20 k qq (by decide), ro 21 k qq (by decide), ro 22 k qq (by decide)]
        exact tr k (by omega)
    · rw [r 16 (by decide)]; exact a2
    · unfold zW24; rw [r 23 (by decide), r 24 (by decide)]; exact a3
    · rw [r 26 (by decide)]; exact a4
theorem O28a {x : Int32} (q : zS1 b de h L xs σ n cc ss μ) (hx : zin x (nI 0) (nI 50) = 0) (hq : ∀ μ', zS1 b de h L xs σ n (cc + 1) (ss + 6) μ' → Q (.inr 1) μ') : zCall de mi 28 [.ref h, .int x] μ Q := by
  rw [C28a hx]
  exact hq _ q.thr
theorem O28b {x : Int32} (q : zS1 b de h L xs σ n cc ss μ) (hx : zin x (nI 0) (nI 50) ≠ 0) (hf : σ 16 0 = nI 500) (hq : ∀ μ', zS1 b de h L xs σ n (cc + 1) (ss + 6) μ' → Q (.inr 2) μ') : zCall de mi 28 [.ref h, .int x] μ Q := by
  obtain ⟨mt, ⟨A, K, B, V, N, H⟩, ia, ib⟩ := id q
  obtain ⟨bu, hbu, e⟩ := zin_ex (by decide) hx
  subst e
  rw [C28b H hbu hf]
  exact hq _ q.thr
/-- the rows behind a frame -/
noncomputable def zfr1 (σ : Nat → Nat → Int32) (n b : Nat) : Nat → Nat → Int32 := zup (zfrm σ n b) 16 0 (zfrm σ n b 16 0 + nI 1)
theorem zfr1_I {f b : Nat} (iv : zIV σ) (ef : σ 16 0 = nI f) (hf : f < 500) : zIA (zfr1 σ (znu σ) b) (znu σ) ∧ zIB (zfr1 σ (znu σ) b) (znu σ) := by
  have r : ∀ g, g ≠ 11 → g ≠ 13 → g ≠ 14 → g ≠ 15 → g ≠ 10 → g ≠ 5 → g ≠ 2 → g ≠ 3 → zfrm σ (znu σ) b g = σ g := fun g a1 a2 a3 a4 a5 a6 a7 a8 => by
    unfold zfrm
    rw [zge_n a1 a2 a3 a4, zho_n a5]
    unfold zhr
    rw [zrw_n a6, zmv_n a7 a8]
  have r16 : zfrm σ (znu σ) b 16 0 = nI f := by
    rw [r 16 (by decide) (by decide) (by decide) (by decide) (by decide) (by decide) (by decide) (by decide)]; exact ef
  have i1 : zIA (zfrm σ (znu σ) b) (znu σ) := iv.1.hits.ge
  refine ⟨i1.row (fun g hg => zup_f (by omega)), ?_⟩
  obtain ⟨a1, a2, a3, a4⟩ := iv.2
  have q : ∀ g, 17 ≤ g → zfr1 σ (znu σ) b g = σ g := fun g hg => by
    unfold zfr1
    rw [zup_f (by omega), r g (by omega) (by omega) (by omega) (by omega) (by omega) (by omega) (by omega) (by omega)]
  refine ⟨?_, ⟨f + 1, by omega, by unfold zfr1; rw [zup_s, r16, nI_add]⟩, ?_, ?_⟩
  · rw [q 17 (by decide), q 19 (by decide), q 20 (by decide), q 21 (by decide), q 22 (by decide)]; exact a1
  · unfold zW24; rw [q 23 (by decide), q 24 (by decide)]; exact a3
  · rw [q 26 (by decide)]; exact a4
theorem O28c {x : Int32} (q : zS1 b de h L xs σ n cc ss μ) (hx : zin x (nI 0) (nI 50) ≠ 0) (hf : σ 16 0 ≠ nI 500) (hq : ∀ μ', zS1 b de h L xs (zfr1 (zwL σ (znw σ)) (znu (zwL σ (znw σ))) x.toNatClampNeg) (znu (zwL σ (znw σ))) (cc + 60) (ss + 1660) μ' → Q (.inl (some (.int (nI (zcn (zfr (zfrm (zwL σ (znw σ)) (znu (zwL σ (znw σ))) x.toNatClampNeg)) 12))))) μ') : zCall de mi 28 [.ref h, .int x] μ Q := by
  obtain ⟨mt, ⟨A, K, B, V, N, H⟩, ia, ib⟩ := id q
  obtain ⟨bu, hbu, e⟩ := zin_ex (by decide) hx
  subst e
  rw [nI_clamp (by omega)] at hq
  obtain ⟨f, hf5, ef⟩ := ib.2.1
  have hf2 : f < 500 := by
    have : f ≠ 500 := fun e => hf (by rw [ef, e])
    omega
  have iv : zIV σ := ia.iv ib
  have Hn : zHl' de h μ σ (znu σ) A K B V N := by rw [ia.nu]; exact H
  refine C28c Hn iv zMd0 hbu ef hf2 (fun μ1 A1 K1 H1 kp1 => hq μ1 (q.to kp1 H1 ?_ ?_))
  · exact (zfr1_I (iv.wL _ (Nat.le_refl _)) (by rw [zwL_n (by decide)]; exact ef) hf2).1
  · exact (zfr1_I (iv.wL _ (Nat.le_refl _)) (by rw [zwL_n (by decide)]; exact ef) hf2).2
theorem O29 (q : zS1 b de h L xs σ n cc ss μ) (hq : Q (.inl (some (.int (σ 16 0)))) μ) : zCall de mi 29 [.ref h] μ Q := by
  obtain ⟨mt, ⟨A, K, B, V, N, H⟩, ia, ib⟩ := id q
  rw [C29 H]
  exact hq
theorem O30 (q : zS1 b de h L xs σ n cc ss μ) (hq : ∀ μ', zS1 b de h L xs (zsw σ) n cc ss μ' → Q (.inl (some (.int (nI (zcn (zfr (zsw σ)) 12) - nI (zcn (zfr σ) 12))))) μ') : zCall de mi 30 [.ref h] μ Q := by
  obtain ⟨mt, ⟨A, K, B, V, N, H⟩, ia, ib⟩ := id q
  exact C30 H ia.w0.2 ia.w11 (fun μ1 H1 kp1 => hq μ1 (q.to kp1 H1 ia.sw (ib.row (fun f h1 h2 => zsw_n (by omega) (by omega)))))
theorem O31 (q : zS1 b de h L xs σ n cc ss μ) (hq : Q (.inl (some (.int (nI (zcn (zfr σ) 12))))) μ) : zCall de mi 31 [.ref h] μ Q := by
  obtain ⟨mt, ⟨A, K, B, V, N, H⟩, ia, ib⟩ := id q
  rw [C31 H]
  exact hq
theorem O32a {x : Int32} (q : zS1 b de h L xs σ n cc ss μ) (hx : zin x (nI 0) (nI 11) = 0) (hq : ∀ μ', zS1 b de h L xs σ n (cc + 1) (ss + 6) μ' → Q (.inr 0) μ') : zCall de mi 32 [.ref h, .int x] μ Q := by
  rw [C32b hx]
  exact hq _ q.thr
theorem O32b {x : Int32} (q : zS1 b de h L xs σ n cc ss μ) (hx : zin x (nI 0) (nI 11) ≠ 0) (hq : Q (.inl (some (.int (σ 12 x.toNatClampNeg)))) μ) : zCall de mi 32 [.ref h, .int x] μ Q := by
  obtain ⟨mt, ⟨A, K, B, V, N, H⟩, ia, ib⟩ := id q
  obtain ⟨s, hs, e⟩ := zin_ex (by decide) hx
  subst e
  rw [nI_clamp (by omega)] at hq
  rw [C32a H (show s < 12 by omega)]
  exact hq
theorem O33 (q : zS1 b de h L xs σ n cc ss μ) (hq : Q (.inl (some (.int (zsu σ n)))) μ) : zCall de mi 33 [.ref h] μ Q := by
  obtain ⟨mt, ⟨A, K, B, V, N, H⟩, ia, ib⟩ := id q
  rw [C33 H ia.w0.2]
  exact hq
theorem O34 (q : zS1 b de h L xs σ n cc ss μ) (hq : Q (.inl (some (.int (zsu σ n)))) μ) : zCall de mi 34 [.ref h] μ Q := by
  obtain ⟨mt, ⟨A, K, B, V, N, H⟩, ia, ib⟩ := id q
  rw [C34 H ia.w0.2]
  exact hq
theorem O35a {x : Int32} (q : zS1 b de h L xs σ n cc ss μ) (hx : zin x (nI 0) (nI 9) = 0) (hq : ∀ μ', zS1 b de h L xs σ n (cc + 1) (ss + 6) μ' → Q (.inr 1) μ') : zCall de mi 35 [.ref h, .int x] μ Q := by
  rw [C35a hx]
  exact hq _ q.thr
theorem O35b {x : Int32} (q : zS1 b de h L xs σ n cc ss μ) (hx : zin x (nI 0) (nI 9) ≠ 0) (hq : ∀ μ', zS1 b de h L xs (zup σ 26 0 x) n cc ss μ' → Q (.inl (some (.int (σ 26 0)))) μ') : zCall de mi 35 [.ref h, .int x] μ Q := by
  obtain ⟨mt, ⟨A, K, B, V, N, H⟩, ia, ib⟩ := id q
  obtain ⟨s, hs, es⟩ := zin_ex (by decide) hx
  rw [C35b H hx]
  have H1 := H.putH (j := 5) (f := 26) (x := x) ia.w0.2 ia.w11 (Or.inr ⟨rfl, rfl⟩)
  refine hq _ (q.to (zKp.putI (h := h) (zpr_h (show 0 ≤ 6 by decide))) H1 (ia.row (fun f hf => zup_f (by omega))) ?_)
  obtain ⟨a1, a2, a3, a4⟩ := ib
  have r : ∀ f, f ≠ 26 → zup σ 26 0 x f = σ f := fun f hf => zup_f hf
  unfold zIB zW24
  rw [r 17 (by decide), r 19 (by decide), r 20 (by decide), r 21 (by decide), r 22 (by decide), r 16 (by decide), r 23 (by decide), r 24 (by decide)]
  exact ⟨a1, a2, a3, s, by omega, by rw [zup_s]; exact es⟩
theorem O36a {x : Int32} (q : zS1 b de h L xs σ n cc ss μ) (hv : zfd σ x n = -nI 1) (hq : ∀ μ', zS1 b de h L xs σ n (cc + 1) (ss + 6) μ' → Q (.inr 0) μ') : zCall de mi 36 [.ref h, .int x] μ Q := by
  obtain ⟨mt, ⟨A, K, B, V, N, H⟩, ia, ib⟩ := id q
  rw [C36a H ia.w0.2 hv]
  exact hq _ q.thr
theorem O36b {x : Int32} {k : Nat} (q : zS1 b de h L xs σ n cc ss μ) (hv : zfd σ x n = nI k) (hk : k < n) (hs : σ 23 0 = nI 30) (hq : ∀ μ', zS1 b de h L xs σ n (cc + 1) (ss + 6) μ' → Q (.inr 2) μ') : zCall de mi 36 [.ref h, .int x] μ Q := by
  obtain ⟨mt, ⟨A, K, B, V, N, H⟩, ia, ib⟩ := id q
  rw [C36b H ia.w0.2 ia.uq hv hk hs]
  exact hq _ q.thr
theorem O36c {x : Int32} {k : Nat} (q : zS1 b de h L xs σ n cc ss μ) (hv : zfd σ x n = nI k) (hk : k < n) (hs : σ 23 0 ≠ nI 30) (hq : ∀ μ', zS1 b de h L xs (zso σ (zns σ) k) n (cc + 2) (ss + 72) μ' → Q (.inl (some (.int (nI (zns σ))))) μ') : zCall de mi 36 [.ref h, .int x] μ Q := by
  obtain ⟨mt, ⟨A, K, B, V, N, H⟩, ia, ib⟩ := id q
  obtain ⟨S, hS, eS, w24⟩ := ib.2.2.1
  have ens : zns σ = S := by unfold zns; rw [eS, nI_clamp (by omega)]
  rw [ens] at hq
  have hS2 : S < 30 := by
    have : S ≠ 30 := fun e => hs (by rw [eS, e])
    omega
  refine C36c H ia.w0.2 ia.w11 zMd0 ia.uq hv hk eS hS2 (fun μ1 N1 H1 kp1 => hq μ1 (q.to kp1 H1 ?_ ?_))
  · exact ia.row (fun g hg => by unfold zso; rw [zup_f (by omega), zup_f (by omega), zup_f (by omega)])
  · have r : ∀ g, g < 23 ∨ 25 < g → zso σ S k g = σ g := fun g hg => by unfold zso; rw [zup_f (by omega), zup_f (by omega), zup_f (by omega)]
    have ro : ∀ g i, i ≠ S → 24 ≤ g → zso σ S k g i = σ g i := fun g i hi hg => by unfold zso; rw [zup_f (by omega), zup_k hi, zup_k hi]
    obtain ⟨a1, a2, a3, a4⟩ := ib
    refine ⟨?_, ?_, ⟨S + 1, by omega, by unfold zso; rw [zup_s], fun i hi => ?_⟩, ?_⟩
    · rw [r 17 (by decide), r 19 (by decide), r 20 (by decide), r 21 (by decide), r 22 (by decide)]; exact a1
    · rw [r 16 (by decide)]; exact a2
    · by_cases qq : i = S
      · have e24 : zso σ S k 24 S = nI k := by unfold zso; simp [zup]
        rw [qq, e24]; exact ⟨k, hk, rfl⟩
      · rw [ro 24 i qq (by decide)]; exact w24 i (by omega)
    · rw [r 26 (by decide)]; exact a4
theorem O37 (q : zS1 b de h L xs σ n cc ss μ) (hq : Q (.inl (some (.int (zse σ (zns σ) (zns σ))))) μ) : zCall de mi 37 [.ref h] μ Q := by
  obtain ⟨mt, ⟨A, K, B, V, N, H⟩, ia, ib⟩ := id q
  obtain ⟨S, hS, eS, w24⟩ := ib.2.2.1
  have es : zns σ = S := by unfold zns; rw [eS, nI_clamp (by omega)]
  exact C37 H ⟨ia.w0.2, by omega, by rw [es]; exact w24, ia.wc, ib.2.2.2⟩ hq
end OUTS
