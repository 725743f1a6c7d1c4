/-! ===== class and model agree, call by call: those with a catch ===== -/
section AGREE
variable {b de h mi n L c : Nat} {xs : Nat → Int32} {μ μ' μ1 : zM} {σ σ' τ : Nat → Nat → Int32} {A K A' K' : Nat → Nat} {B B' : Nat → Nat → Nat} {V N V' N' : Nat → Nat} {Q : zRes → zM → Prop}
theorem t270 : zth σ (nI 0) 27 0 = nI 0 := zup_s
theorem thx {x : Int32} {f : Nat} (h : f ≠ 27) : zth σ x f = σ f := zthr h
theorem ziB {f : Nat → Nat → Int32} (ib : zIB σ n) (e : ∀ g, 16 ≤ g → g ≤ 26 → f g = σ g) : zIB f n := ib.row e
theorem A22 {x : Int32} (lw : zLw b de h L xs c μ) (hq : ∀ k μ1, zPost b de h mi L xs 74 [.ref (h + 7), .int x] k c μ1 → Q (.inl (some (.int k))) μ1) : zCall de mi 22 [.ref h, .int x] μ (zWr h Q zcd0) := by
  obtain ⟨hb, kt, σ, n, A, K, B, V, N, e, H, ia, ib⟩ := lw
  have hN := ia.w0.2
  have hz := H.bs.2.2.2.2.2
  rcases zfd_is σ x n with ⟨hv, -⟩ | ⟨k, hk, -, -, hv⟩
  · rw [C22b H hN hv]
    exact zo_th hq hb kt e H ia ib (by decide) (by decide) (fun μ' Q mk => M74a mk ia.w0 hv)
  · rw [C22a H hN ia.uq hv hk]
    exact zo_ok hq hb hz kt e zKp.refl (by decide) (by decide) H.th ia.th ib.th t270 (fun μ' Q mk => M74b mk ia.w0 hv hk)
theorem A23 {x : Int32} (lw : zLw b de h L xs c μ) (hq : ∀ k μ1, zPost b de h mi L xs 75 [.ref (h + 7), .int x] k c μ1 → Q (.inl (some (.int k))) μ1) : zCall de mi 23 [.ref h, .int x] μ (zWr h Q zcd0) := by
  obtain ⟨hb, kt, σ, n, A, K, B, V, N, e, H, ia, ib⟩ := lw
  have hN := ia.w0.2
  have hz := H.bs.2.2.2.2.2
  rcases zfd_is σ x n with ⟨hv, -⟩ | ⟨k, hk, -, -, hv⟩
  · rw [C23b H hN hv]
    exact zo_th hq hb kt e H ia ib (by decide) (by decide) (fun μ' Q mk => M75a mk ia.w0 hv)
  · rw [C23a H hN ia.uq hv hk]
    exact zo_ok hq hb hz kt e zKp.refl (by decide) (by decide) H.th ia.th ib.th t270 (fun μ' Q mk => M75b mk ia.w0 hv hk)
theorem A24 {x : Int32} (lw : zLw b de h L xs c μ) (hq : ∀ k μ1, zPost b de h mi L xs 76 [.ref (h + 7), .int x] k c μ1 → Q (.inl (some (.int k))) μ1) : zCall de mi 24 [.ref h, .int x] μ (zWr h Q zcd0) := by
  obtain ⟨hb, kt, σ, n, A, K, B, V, N, e, H, ia, ib⟩ := lw
  have hN := ia.w0.2
  have hz := H.bs.2.2.2.2.2
  rcases zfd_is σ x n with ⟨hv, -⟩ | ⟨k, hk, -, -, hv⟩
  · rw [C24b H hN hv]
    exact zo_th hq hb kt e H ia ib (by decide) (by decide) (fun μ' Q mk => M76a mk ia.w0 hv)
  · rw [C24a H hN ia.uq hv hk]
    exact zo_ok hq hb hz kt e zKp.refl (by decide) (by decide) H.th ia.th ib.th t270 (fun μ' Q mk => M76b mk ia.w0 hv hk)
theorem A25 {x p : Int32} (lw : zLw b de h L xs c μ) (hq : ∀ k μ1, zPost b de h mi L xs 77 [.ref (h + 7), .int x, .int p] k c μ1 → Q (.inl (some (.int k))) μ1) : zCall de mi 25 [.ref h, .int x, .int p] μ (zWr h Q zcd0) := by
  obtain ⟨hb, kt, σ, n, A, K, B, V, N, e, H, ia, ib⟩ := lw
  have hN := ia.w0.2
  have hz := H.bs.2.2.2.2.2
  rcases zfd_is σ x n with ⟨hv, -⟩ | ⟨k, hk, -, -, hv⟩
  · rw [C25a H hN hv]
    exact zo_th hq hb kt e H ia ib (by decide) (by decide) (fun μ' Q mk => M77a mk ia.w0 hv)
  · obtain ⟨l, hl3, hl⟩ := ia.w7.1 k hk
    by_cases hp : zin p (nI 0) (σ 7 k - nI 1) = 0
    · rw [C25b H hN ia.uq hv hk hl hl3 hp]
      exact zo_th hq hb kt e H ia ib (by decide) (by decide) (fun μ' Q mk => M77b mk ia.w0 hv hk hp)
    · obtain ⟨j, hj, ej⟩ := zpl2 hl3 (by rw [← hl]; exact hp)
      subst ej
      obtain ⟨t, ht, et⟩ := ia.w7.at hk hl hl3 hj
      obtain ⟨l', rfl⟩ : ∃ l', l = l' + 1 := ⟨l - 1, by omega⟩
      rw [C25c H hN ia.uq hv hk hl hl3 hj et ht]
      exact zo_ok hq hb hz kt e zKp.refl (by decide) (by decide) H.th ia.th ib.th t270 (fun μ' Q mk => M77c mk ia.w0 hv hk hl (by omega) (by omega) et ht)
theorem A26 {x : Int32} (lw : zLw b de h L xs c μ) (hq : ∀ k μ1, zPost b de h mi L xs 78 [.ref (h + 7), .int x] k c μ1 → Q (.inl (some (.int k))) μ1) : zCall de mi 26 [.ref h, .int x] μ (zWr h Q zcd0) := by
  obtain ⟨hb, kt, σ, n, A, K, B, V, N, e, H, ia, ib⟩ := lw
  have hN := ia.w0.2
  have hz := H.bs.2.2.2.2.2
  rcases zfd_is σ x n with ⟨hv, -⟩ | ⟨k, hk, -, -, hv⟩
  · rw [C26b H hN hv]
    exact zo_th hq hb kt e H ia ib (by decide) (by decide) (fun μ' Q mk => M78a mk ia.w0 hv)
  · rw [C26a H hN ia.uq ia.w7 hv hk]
    exact zo_ok hq hb hz kt e zKp.refl (by decide) (by decide) H.th ia.th ib.th t270 (fun μ' Q mk => M78b mk ia.w0 hv hk)
theorem A32 {x : Int32} (lw : zLw b de h L xs c μ) (hq : ∀ k μ1, zPost b de h mi L xs 87 [.ref (h + 7), .int x] k c μ1 → Q (.inl (some (.int k))) μ1) : zCall de mi 32 [.ref h, .int x] μ (zWr h Q zcd0) := by
  obtain ⟨hb, kt, σ, n, A, K, B, V, N, e, H, ia, ib⟩ := lw
  have hN := ia.w0.2
  have hz := H.bs.2.2.2.2.2
  by_cases hx : zin x (nI 0) (nI 11) = 0
  · rw [C32b hx]
    exact zo_th hq hb kt e H ia ib (by decide) (by decide) (fun μ' Q mk => M87 mk hx)
  · obtain ⟨s, hs, es⟩ := zin_ex (by decide) hx
    subst es
    rw [C32a H (show s < 12 by omega)]
    exact zo_ok hq hb hz kt e zKp.refl (by decide) (by decide) H.th ia.th ib.th t270 (fun μ' Q mk => M87b mk (by omega))
theorem A35 {x : Int32} (lw : zLw b de h L xs c μ) (hq : ∀ k μ1, zPost b de h mi L xs 91 [.ref (h + 7), .int x] k c μ1 → Q (.inl (some (.int k))) μ1) : zCall de mi 35 [.ref h, .int x] μ (zWr h Q zcd1) := by
  obtain ⟨hb, kt, σ, n, A, K, B, V, N, e, H, ia, ib⟩ := lw
  have hN := ia.w0.2
  have hz := H.bs.2.2.2.2.2
  by_cases hx : zin x (nI 0) (nI 9) = 0
  · rw [C35a hx]
    exact zo_th hq hb kt e H ia ib (by decide) (by decide) (fun μ' Q mk => M91a mk hx)
  · obtain ⟨s, hs, es⟩ := zin_ex (by decide) hx
    rw [C35b H hx]
    have H1 := (H.th (x := nI 0)).putH (j := 5) (f := 26) (x := x) hN ia.th.w11 (Or.inr ⟨rfl, rfl⟩)
    have i1 : zIA (zup (zth σ (nI 0)) 26 0 x) n := ia.th.row (fun f hf => zup_f (by omega))
    have i2 : zIB (zup (zth σ (nI 0)) 26 0 x) n := by
      obtain ⟨a1, a2, a3, a4⟩ := ib.th (x := nI 0)
      have r : ∀ f, f ≠ 26 → zup (zth σ (nI 0)) 26 0 x f = zth σ (nI 0) f := fun f hf => zup_f hf
      unfold zIB zW24
      rw [r 17 (by decide), r 19 (by decide), r 20 (by decide), r 21 (by decide), r 22 (by decide), r 16 (by decide), r 23 (by decide), r 24 (by decide)]
      exact ⟨a1, a2, a3, s, by omega, by rw [zup_s]; exact es⟩
    exact zo_ok hq hb hz kt e (zKp.putI (h := h) (zpr_h (show 0 ≤ 6 by decide))) (by decide) (by decide) H1 i1 i2 ((congrFun (zup_f (by decide)) 0).trans t270) (fun μ' Q mk => M91b mk hx)
theorem A17 {x : Int32} (lw : zLw b de h L xs c μ) (hq : ∀ k μ1, zPost b de h mi L xs 68 [.ref (h + 7), .int x] k c μ1 → Q (.inl (some (.int k))) μ1) : zCall de mi 17 [.ref h, .int x] μ (zWr h Q zcd02) := by
  obtain ⟨hb, kt, σ, n, A, K, B, V, N, e, H, ia, ib⟩ := lw
  have hN := ia.w0.2
  have hz := H.bs.2.2.2.2.2
  rcases zfd_is σ x n with ⟨hv, -⟩ | ⟨k, hk, -, -, hv⟩
  · rw [C17a H hN hv]
    exact zo_th hq hb kt e H ia ib (by decide) (by decide) (fun μ' Q mk => M68a mk ia.w0 hv)
  · by_cases h6 : σ 6 k = 0
    · rw [C17b H hN ia.uq hv hk h6]
      exact zo_th hq hb kt e H ia ib (by decide) (by decide) (fun μ' Q mk => M68b mk ia.w0 hv hk h6)
    · have it := ia.th (x := nI 0)
      have hv' : zfd (zth σ (nI 0)) x n = nI k := by rw [zfd_th]; exact hv
      refine C17c (H.th (x := nI 0)) hN it.uq hv' hk (by rw [thx (by decide)]; exact h6) it.w7 it.w9 it.w11 (fun μ1 H1 kp1 => ?_)
      have t0 : zho (zup (zth σ (nI 0)) 6 k (nI 0)) n 27 0 = nI 0 := by rw [zho_n (by decide), zup_f (by decide)]; exact t270
      have i2 : zIB (zho (zup (zth σ (nI 0)) 6 k (nI 0)) n) n := ib.th.row (fun f h1 h2 => by rw [zho_n (by omega), zup_f (by omega)])
      exact zo_ok hq hb hz kt e kp1 (by decide) (by decide) H1 it.unroot i2 t0 (fun μ' Q mk => M68c mk ia.w0 hv hk h6 ia.w7)
theorem A18 {x y kd : Int32} (lw : zLw b de h L xs c μ) (hq : ∀ k μ1, zPost b de h mi L xs 69 [.ref (h + 7), .int x, .int y, .int kd] k c μ1 → Q (.inl (some (.int k))) μ1) : zCall de mi 18 [.ref h, .int x, .int y, .int kd] μ (zWr h Q zcd3) := by
  obtain ⟨hb, kt, σ, n, A, K, B, V, N, e, H, ia, ib⟩ := lw
  have hN := ia.w0.2
  have hz := H.bs.2.2.2.2.2
  rcases zfd_is σ x n with ⟨hv, -⟩ | ⟨k, hk, -, -, hv⟩
  · rw [C18a H hN ia.uq (Or.inl hv)]
    exact zo_th hq hb kt e H ia ib (by decide) (by decide) (fun μ' Q mk => M69a mk ia.w0 (Or.inl (zfd0 hv)))
  rcases zfd_is σ y n with ⟨hw, -⟩ | ⟨t, ht, hth, -, hw⟩
  · rw [C18a H hN ia.uq (Or.inr ⟨⟨k, hk, hv⟩, Or.inl hw⟩)]
    exact zo_th hq hb kt e H ia ib (by decide) (by decide) (fun μ' Q mk => M69a mk ia.w0 (Or.inr (Or.inl (zfd0 hw))))
  by_cases hkd : zin kd (nI 0) (nI 2) = 0
  · rw [C18a H hN ia.uq (Or.inr ⟨⟨k, hk, hv⟩, Or.inr ⟨⟨t, ht, hw⟩, hkd⟩⟩)]
    exact zo_th hq hb kt e H ia ib (by decide) (by decide) (fun μ' Q mk => M69a mk ia.w0 (Or.inr (Or.inr hkd)))
  by_cases hkt : k = t
  · subst hkt
    rw [C18b H hN ia.uq hv hk hw hkd]
    exact zo_th hq hb kt e H ia ib (by decide) (by decide) (fun μ' Q mk => M69b mk ia.w0 (zfdk hv (by omega)) (zfdk hw (by omega)) hkd (by rw [hv, hw]))
  obtain ⟨l, hl3, hl⟩ := ia.w7.1 k hk
  by_cases h3 : l = 3
  · subst h3
    rw [C18c H hN ia.uq hv hk hw ht hkd hkt hl]
    exact zo_th hq hb kt e H ia ib (by decide) (by decide) (fun μ' Q mk => M69c (l := 3) mk ia.w0 hv hw hk ht hkd hkt hl)
  · have hl3' : l < 3 := by omega
    have it := ia.th (x := nI 0)
    have hv' : zfd (zth σ (nI 0)) x n = nI k := by rw [zfd_th]; exact hv
    have hw' : zfd (zth σ (nI 0)) y n = nI t := by rw [zfd_th]; exact hw
    have hl' : zth σ (nI 0) 7 k = nI l := by rw [thx (by decide)]; exact hl
    refine C18d (H.th (x := nI 0)) hN it.w7 it.w11 kt.md it.uq hv' hk hw' ht hkd hkt hl' hl3' (fun μ1 B1 H1 kp1 => ?_)
    have t0 : ztie (zth σ (nI 0)) k l (nI t) kd 27 0 = nI 0 := by rw [ztie_n (by decide) (by decide) (by decide)]; exact t270
    have i2 : zIB (ztie (zth σ (nI 0)) k l (nI t) kd) n := ib.th.row (fun f h1 h2 => ztie_n (by omega) (by omega) (by omega))
    exact zo_ok hq hb hz kt e kp1 (by decide) (by decide) H1 (it.tie hk ht hl' hl3' (by rw [thx (by decide)]; exact hth) (zin_k1 hkd)) i2 t0 (fun μ' Q mk => M69d (l := l) mk ia.w0 hv hw hk ht hkd hkt hl hl3')
theorem A19 {x p : Int32} (lw : zLw b de h L xs c μ) (hq : ∀ k μ1, zPost b de h mi L xs 70 [.ref (h + 7), .int x, .int p] k c μ1 → Q (.inl (some (.int k))) μ1) : zCall de mi 19 [.ref h, .int x, .int p] μ (zWr h Q zcd0) := by
  obtain ⟨hb, kt, σ, n, A, K, B, V, N, e, H, ia, ib⟩ := lw
  have hN := ia.w0.2
  have hz := H.bs.2.2.2.2.2
  rcases zfd_is σ x n with ⟨hv, -⟩ | ⟨k, hk, -, -, hv⟩
  · rw [C19a H hN hv]
    exact zo_th hq hb kt e H ia ib (by decide) (by decide) (fun μ' Q mk => M70a mk ia.w0 hv)
  obtain ⟨l, hl3, hl⟩ := ia.w7.1 k hk
  by_cases hp : zin p (nI 0) (σ 7 k - nI 1) = 0
  · rw [C19b H hN ia.uq hv hk hl hl3 hp]
    exact zo_th hq hb kt e H ia ib (by decide) (by decide) (fun μ' Q mk => M70b mk ia.w0 hv hk hp)
  · obtain ⟨j, hj, ej⟩ := zpl2 hl3 (by rw [← hl]; exact hp)
    subst ej
    obtain ⟨l', rfl⟩ : ∃ l', l = l' + 1 := ⟨l - 1, by omega⟩
    have it := ia.th (x := nI 0)
    have hv' : zfd (zth σ (nI 0)) x n = nI k := by rw [zfd_th]; exact hv
    have hl' : zth σ (nI 0) 7 k = nI (l' + 1) := by rw [thx (by decide)]; exact hl
    have w := zun_W it.w7 it.w9 hk hl' (show l' < 3 by omega) (show j ≤ l' by omega)
    refine C19c (H.th (x := nI 0)) hN it.w7 it.w11 it.uq hv' hk hl' (by omega) (by omega) w.1 w.2 (fun μ1 B1 H1 kp1 => ?_)
    have t0 : zho (zun (zth σ (nI 0)) k l' j) n 27 0 = nI 0 := by rw [zho_n (by decide), zun_n (by decide) (by decide) (by decide)]; exact t270
    have i2 : zIB (zho (zun (zth σ (nI 0)) k l' j) n) n := ib.th.row (fun f h1 h2 => by rw [zho_n (by omega), zun_n (by omega) (by omega) (by omega)])
    exact zo_ok hq hb hz kt e kp1 (by decide) (by decide) H1 (it.untie hk hl' (by omega) (by omega)) i2 t0 (fun μ' Q mk => M70c mk ia.w0 hv hk hl (by omega) (by omega) w.1)
theorem A27 {f x w s l : Int32} (lw : zLw b de h L xs c μ) (hq : ∀ k μ1, zPost b de h mi L xs 79 [.ref (h + 7), .int f, .int x, .int w, .int s, .int l] k c μ1 → Q (.inl (some (.int k))) μ1) : zCall de mi 27 [.ref h, .int f, .int x, .int w, .int s, .int l] μ (zWr h Q zcd12) := by
  obtain ⟨hb, kt, σ, n, A, K, B, V, N, e, H, ia, ib⟩ := lw
  have hN := ia.w0.2
  have hz := H.bs.2.2.2.2.2
  by_cases h1 : zin f (σ 16 0) (nI 500) = 0
  · rw [C27a H (Or.inl h1)]
    exact zo_th hq hb kt e H ia ib (by decide) (by decide) (fun μ' Q mk => M79a mk (Or.inl h1))
  by_cases h2 : zrt x w s l = 0
  · rw [C27a H (Or.inr h2)]
    exact zo_th hq hb kt e H ia ib (by decide) (by decide) (fun μ' Q mk => M79a mk (Or.inr h2))
  obtain ⟨W, hW, eW, tr⟩ := ib.1
  by_cases h3 : W = 20
  · subst h3
    rw [C27b H h1 h2 eW]
    exact zo_th hq hb kt e H ia ib (by decide) (by decide) (fun μ' Q mk => M79b mk h1 h2 eW)
  · have it := ia.th (x := nI 0)
    refine C27c (H.th (x := nI 0)) hN it.w11 kt.md (by rw [thx (by decide)]; exact h1) h2 (by rw [thx (by decide)]; exact eW) (show W < 20 by omega) (fun μ1 V1 H1 kp1 => ?_)
    have r : ∀ g, g < 17 ∨ 22 < g → zwv (zth σ (nI 0)) W f x w s l g = zth σ (nI 0) g := fun g hg => by unfold zwv; rw [zup_f (by omega), zup_f (by omega), zup_f (by omega), zup_f (by omega), zup_f (by omega), zup_f (by omega)]
    have ro : ∀ g k, k ≠ W → 18 ≤ g → zwv (zth σ (nI 0)) W f x w s l g k = zth σ (nI 0) g k := fun g k hk hg => by unfold zwv; rw [zup_f (by omega), zup_k hk, zup_k hk, zup_k hk, zup_k hk, zup_k hk]
    have i2 : zIB (zwv (zth σ (nI 0)) W f x w s l) n := by
      obtain ⟨a1, a2, a3, a4⟩ := ib
      refine ⟨⟨W + 1, by omega, by unfold zwv; rw [zup_s], fun k hk => ?_⟩, ?_, ?_, ?_⟩
      · by_cases q : k = W
        · have e19 : zwv (zth σ (nI 0)) W f x w s l 19 W = x := by unfold zwv; simp [zup]
          have e20 : zwv (zth σ (nI 0)) W f x w s l 20 W = w := by unfold zwv; simp [zup]
          have e21 : zwv (zth σ (nI 0)) W f x w s l 21 W = s := by unfold zwv; simp [zup]
          have e22 : zwv (zth σ (nI 0)) W f x w s l 22 W = l := by unfold zwv; simp [zup]
          rw [q, e19, e20, e21, e22]; exact h2
        · rw [ro 19 k q (by decide), ro 20 k q (by decide), ro 21 k q (by decide), ro 22 k q (by decide), thx (by decide), thx (by decide), thx (by decide), thx (by decide)]
          exact tr k (by omega)
      · rw [r 16 (by decide), thx (by decide)]; exact a2
      · unfold zW24; rw [r 23 (by decide), r 24 (by decide), thx (by decide), thx (by decide)]; exact a3
      · rw [r 26 (by decide), thx (by decide)]; exact a4
    exact zo_ok hq hb hz kt e kp1 (by decide) (by decide) H1 (it.row (fun g hg => r g (by omega))) i2 (by rw [r 27 (by decide)]; exact t270) (fun μ' Q mk => M79c mk h1 h2 eW (by omega))
theorem A36 {x : Int32} (lw : zLw b de h L xs c μ) (hq : ∀ k μ1, zPost b de h mi L xs 92 [.ref (h + 7), .int x] k c μ1 → Q (.inl (some (.int k))) μ1) : zCall de mi 36 [.ref h, .int x] μ (zWr h Q zcd02) := by
  obtain ⟨hb, kt, σ, n, A, K, B, V, N, e, H, ia, ib⟩ := lw
  have hN := ia.w0.2
  have hz := H.bs.2.2.2.2.2
  rcases zfd_is σ x n with ⟨hv, -⟩ | ⟨k, hk, -, -, hv⟩
  · rw [C36a H hN hv]
    exact zo_th hq hb kt e H ia ib (by decide) (by decide) (fun μ' Q mk => M92a mk ia.w0 hv)
  obtain ⟨S, hS, eS, w24⟩ := ib.2.2.1
  by_cases h3 : S = 30
  · subst h3
    rw [C36b H hN ia.uq hv hk eS]
    exact zo_th hq hb kt e H ia ib (by decide) (by decide) (fun μ' Q mk => M92b mk ia.w0 hv hk eS)
  · have it := ia.th (x := nI 0)
    have hv' : zfd (zth σ (nI 0)) x n = nI k := by rw [zfd_th]; exact hv
    refine C36c (H.th (x := nI 0)) hN it.w11 kt.md it.uq hv' hk (by rw [thx (by decide)]; exact eS) (show S < 30 by omega) (fun μ1 N1 H1 kp1 => ?_)
    have r : ∀ g, g < 23 ∨ 25 < g → zso (zth σ (nI 0)) S k g = zth σ (nI 0) g := fun g hg => by unfold zso; rw [zup_f (by omega), zup_f (by omega), zup_f (by omega)]
    have ro : ∀ g i, i ≠ S → 24 ≤ g → zso (zth σ (nI 0)) S k g i = zth σ (nI 0) g i := fun g i hi hg => by unfold zso; rw [zup_f (by omega), zup_k hi, zup_k hi]
    have i2 : zIB (zso (zth σ (nI 0)) S k) n := by
      obtain ⟨a1, a2, a3, a4⟩ := ib
      refine ⟨?_, ?_, ⟨S + 1, by omega, by unfold zso; rw [zup_s], fun i hi => ?_⟩, ?_⟩
      · rw [r 17 (by decide), r 19 (by decide), r 20 (by decide), r 21 (by decide), r 22 (by decide), thx (by decide), thx (by decide), thx (by decide), thx (by decide), thx (by decide)]; exact a1
      · rw [r 16 (by decide), thx (by decide)]; exact a2
      · by_cases q : i = S
        · have e24 : zso (zth σ (nI 0)) S k 24 S = nI k := by unfold zso; simp [zup]
          rw [q, e24]; exact ⟨k, hk, rfl⟩
        · rw [ro 24 i q (by decide), thx (by decide)]; exact w24 i (by omega)
      · rw [r 26 (by decide), thx (by decide)]; exact a4
    exact zo_ok hq hb hz kt e kp1 (by decide) (by decide) H1 (it.row (fun g hg => r g (by omega))) i2 (by rw [r 27 (by decide)]; exact t270) (fun μ' Q mk => M92c mk ia.w0 hv hk eS (by omega))
end AGREE
