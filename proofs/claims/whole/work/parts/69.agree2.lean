/-! ===== class and model agree: spawn, frame, and the calls without a catch ===== -/
section AGREE2
variable {b de h mi n L c : Nat} {xs : Nat → Int32} {μ μ' μ1 : zM} {σ σ' τ : Nat → Nat → Int32} {A K A' K' : Nat → Nat} {B B' : Nat → Nat → Nat} {V N V' N' : Nat → Nat} {Q : zRes → zM → Prop}
theorem zfull (i : zIA σ n) (hf : ¬ (n < 40 ∧ zcn (zheld σ) n < 8)) : nI (zcn (zheld σ) n) = nI 8 ∨ nI n = nI 40 := by
  have h8 := i.h8
  have hN := i.w0.2
  by_cases q : n < 40
  · exact Or.inl (congrArg nI (by omega))
  · exact Or.inr (congrArg nI (by omega))
theorem A16 {x cl w sd l : Int32} (lw : zLw b de h L xs c μ) (hq : ∀ k μ1, zPost b de h mi L xs 67 [.ref (h + 7), .int x, .int cl, .int w, .int sd, .int l] k c μ1 → Q (.inl (some (.int k))) μ1) : zCall de mi 16 [.ref h, .int x, .int cl, .int w, .int sd, .int l] μ (zWr h Q zcd3) := by
  obtain ⟨hb, kt, σ, n, A, K, B, V, N, e, H, ia, ib⟩ := lw
  have hN := ia.w0.2
  have hz := H.bs.2.2.2.2.2
  have it := ia.th (x := nI 0)
  have itb := ib.th (x := nI 0)
  have eh : zheld (zth σ (nI 0)) = zheld σ := zheld_th
  by_cases hx : x = -nI 1
  · subst hx
    by_cases hr : zrt cl w sd l = 0
    · rw [C16b H hN ia.uq (v := .null) (Or.inl ⟨rfl, rfl⟩) hr]
      exact zo_th hq hb kt e H ia ib (by decide) (by decide) (fun μ' Q mk => M67b mk ia.w0 (Or.inl ⟨rfl, rfl⟩) hr)
    by_cases hf : n < 40 ∧ zcn (zheld σ) n < 8
    · obtain ⟨es, rm⟩ := it.rm itb hf.1 (by rw [eh]; exact hf.2)
      have hf8 : ¬ nI (zcn (zheld σ) n) = nI 8 := fun q => by
        have := (nI_eq (by omega) (by decide)).mp q
        omega
      refine C16e (H.th (x := nI 0)) it.uq kt.md rm hr (by rw [eh]; exact hf.2) (fun μ1 A1 K1 H1 kp1 => ?_)
      have i1 := it.cs.root (c := cl) (w := w) (sd := sd) (l := l) hf.1 rm.2.2.2.2.2.1 hr (by rw [zheld_cs, eh]; exact hf.2)
      have i2 : zIB (zho (zcm (zcs (zth σ (nI 0))) n (zslo (zth σ (nI 0))) cl w sd l (nI 1)) (n + 1)) (n + 1) := itb.succ.row (fun f h1 h2 => by rw [zho_n (by omega), zcm_7 (by omega), zcs_n (by omega) (by omega)])
      exact zo_ok hq hb hz kt e kp1 (by decide) (by decide) H1 i1 i2 (by rw [zho_n (by decide), zcm_7 (by omega), zcs_n (by decide) (by decide)]; exact t270) (fun μ' Q mk => M67e mk ia.w0 hr hf8 hf.1 ia.w11 es rm.2.2.2.2.2.1 (zcm_W7 it.w7 rm.2.2.2.2.2.2.2.2.2.1))
    · rw [C16c H hN ia.uq (v := .null) (Or.inl ⟨rfl, rfl⟩) hr hf]
      exact zo_th hq hb kt e H ia ib (by decide) (by decide) (fun μ' Q mk => M67c mk ia.w0 (Or.inl ⟨rfl, rfl⟩) hr (zfull ia hf))
  rcases zfd_is σ x n with ⟨hv, -⟩ | ⟨k, hk, -, -, hv⟩
  · rw [C16a H hN hx hv]
    exact zo_th hq hb kt e H ia ib (by decide) (by decide) (fun μ' Q mk => M67a mk ia.w0 hx hv)
  have ow : zOw σ n A x (.ref (A k)) := Or.inr ⟨k, hx, hk, hv, rfl⟩
  have p0 : (0 : Int32) ≤ nI k := nI_pos' (by omega)
  by_cases hr : zrt cl w sd l = 0
  · rw [C16b H hN ia.uq ow hr]
    exact zo_th hq hb kt e H ia ib (by decide) (by decide) (fun μ' Q mk => M67b mk ia.w0 (Or.inr ⟨hx, hv, p0⟩) hr)
  by_cases hf : n < 40 ∧ zcn (zheld σ) n < 8
  · have hf8 : ¬ nI (zcn (zheld σ) n) = nI 8 := fun q => by
      have := (nI_eq (by omega) (by decide)).mp q
      omega
    have hf40 : ¬ nI n = nI 40 := fun q => by
      have := (nI_eq (by omega) (by decide)).mp q
      omega
    obtain ⟨j, hj3, h7⟩ := ia.w7.1 k hk
    by_cases h3 : j = 3
    · subst h3
      rw [C16d H hN ia.uq hx hv hk hr hf h7]
      exact zo_th hq hb kt e H ia ib (by decide) (by decide) (fun μ' Q mk => M67d mk ia.w0 hx hv hk hr hf8 hf40 h7)
    · obtain ⟨es, rm⟩ := it.rm itb hf.1 (by rw [eh]; exact hf.2)
      have hv' : zfd (zth σ (nI 0)) x n = nI k := by rw [zfd_th]; exact hv
      have h7' : zth σ (nI 0) 7 k = nI j := by rw [thx (by decide)]; exact h7
      have h7c : zcs (zth σ (nI 0)) 7 k = nI j := by rw [zcs_n (by decide) (by decide)]; exact h7'
      have h7z : zcm (zcs (zth σ (nI 0))) n (zslo (zth σ (nI 0))) cl w sd l (nI 0) 7 k = nI j := by rw [zcm_7 (by omega)]; exact h7c
      refine C16f (H.th (x := nI 0)) it.uq kt.md rm hx hv' hk hr (by rw [eh]; exact hf.2) h7' (by omega) (fun μ1 A1 K1 B1 H1 kp1 => ?_)
      have i1 := it.cs.kept (c := cl) (w := w) (sd := sd) (l := l) hf.1 rm.2.2.2.2.2.1 hr (by rw [zheld_cs, eh]; exact hf.2) hk h7c (by omega)
      have i2 : zIB (zho (ztie (zcm (zcs (zth σ (nI 0))) n (zslo (zth σ (nI 0))) cl w sd l (nI 0)) k j (nI n) (nI 0)) (n + 1)) (n + 1) := itb.succ.row (fun f h1 h2 => by rw [zho_n (by omega), ztie_n (by omega) (by omega) (by omega), zcm_7 (by omega), zcs_n (by omega) (by omega)])
      exact zo_ok hq hb hz kt e kp1 (by decide) (by decide) H1 i1 i2 (by rw [zho_n (by decide), ztie_n (by decide) (by decide) (by decide), zcm_7 (by omega), zcs_n (by decide) (by decide)]; exact t270) (fun μ' Q mk => M67f mk ia.w0 hx hv hk hr hf8 hf.1 h7 (by omega) h7z ia.w11 es rm.2.2.2.2.2.1 (ztie_W7 (zcm_W7 it.w7 rm.2.2.2.2.2.2.2.2.2.1) (by omega) h7z (by omega)))
  · rw [C16c H hN ia.uq ow hr hf]
    exact zo_th hq hb kt e H ia ib (by decide) (by decide) (fun μ' Q mk => M67c mk ia.w0 (Or.inr ⟨hx, hv, p0⟩) hr (zfull ia hf))
theorem A28 {x : Int32} (lw : zLw b de h L xs c μ) (hq : ∀ k μ1, zPost b de h mi L xs 83 [.ref (h + 7), .int x] k c μ1 → Q (.inl (some (.int k))) μ1) : zCall de mi 28 [.ref h, .int x] μ (zWr h Q zcd12) := by
  obtain ⟨hb, kt, σ, n, A, K, B, V, N, e, H, ia, ib⟩ := lw
  have hN := ia.w0.2
  have hz := H.bs.2.2.2.2.2
  have it := ia.th (x := nI 0)
  have itb := ib.th (x := nI 0)
  by_cases hx : zin x (nI 0) (nI 50) = 0
  · rw [C28a hx]
    exact zo_th hq hb kt e H ia ib (by decide) (by decide) (fun μ' Q mk => M83a mk hx)
  obtain ⟨bu, hbu, ebu⟩ := zin_ex (by decide) hx
  subst ebu
  obtain ⟨f, hf, ef⟩ := ib.2.1
  by_cases h5 : f = 500
  · subst h5
    rw [C28b H hbu ef]
    exact zo_th hq hb kt e H ia ib (by decide) (by decide) (fun μ' Q mk => M83b mk hx ef)
  · have iv : zIV (zth σ (nI 0)) := it.iv itb
    have Ht : zHl' de h μ (zth σ (nI 0)) (znu (zth σ (nI 0))) A K B V N := by rw [it.nu]; exact H.th
    have eft : zth σ (nI 0) 16 0 = nI f := by rw [thx (by decide)]; exact ef
    have nw := ib.nw
    have ewt : znw (zth σ (nI 0)) = znw σ := by unfold znw; rw [thx (by decide)]
    refine C28c Ht iv kt.md hbu eft (by omega) (fun μ1 A1 K1 H1 kp1 => ?_)
    rw [ewt] at H1 ⊢
    have iw : zIV (zwL (zth σ (nI 0)) (znw σ)) := iv.wL _ (by rw [ewt]; exact Nat.le_refl _)
    have iL : ∀ k, k ≤ znw σ → zIV (zwL (zth σ (nI 0)) k) := fun k hk => iv.wL k (by rw [ewt]; exact hk)
    have r : ∀ g, g ≠ 11 → g ≠ 13 → g ≠ 14 → g ≠ 15 → g ≠ 10 → g ≠ 5 → g ≠ 2 → g ≠ 3 → zfrm (zwL (zth σ (nI 0)) (znw σ)) (znu (zwL (zth σ (nI 0)) (znw σ))) bu g = zwL (zth σ (nI 0)) (znw σ) g := fun g a1 a2 a3 a4 a5 a6 a7 a8 => by
      unfold zfrm
      rw [zge_n a1 a2 a3 a4, zho_n a5]
      unfold zhr
      rw [zrw_n a6, zmv_n a7 a8]
    have r16 : zfrm (zwL (zth σ (nI 0)) (znw σ)) (znu (zwL (zth σ (nI 0)) (znw σ))) bu 16 0 = nI f := by
      rw [r 16 (by decide) (by decide) (by decide) (by decide) (by decide) (by decide) (by decide) (by decide), zwL_n (by decide)]; exact eft
    have r27 : zfrm (zwL (zth σ (nI 0)) (znw σ)) (znu (zwL (zth σ (nI 0)) (znw σ))) bu 27 0 = nI 0 := by
      rw [r 27 (by decide) (by decide) (by decide) (by decide) (by decide) (by decide) (by decide) (by decide), zwL_n (by decide)]; exact t270
    have i1 : zIA (zfrm (zwL (zth σ (nI 0)) (znw σ)) (znu (zwL (zth σ (nI 0)) (znw σ))) bu) (znu (zwL (zth σ (nI 0)) (znw σ))) := iw.1.hits.ge
    have i2 : zIB (zup (zfrm (zwL (zth σ (nI 0)) (znw σ)) (znu (zwL (zth σ (nI 0)) (znw σ))) bu) 16 0 (zfrm (zwL (zth σ (nI 0)) (znw σ)) (znu (zwL (zth σ (nI 0)) (znw σ))) bu 16 0 + nI 1)) (znu (zwL (zth σ (nI 0)) (znw σ))) := by
      obtain ⟨a1, a2, a3, a4⟩ := iw.2
      have q : ∀ g, 17 ≤ g → zup (zfrm (zwL (zth σ (nI 0)) (znw σ)) (znu (zwL (zth σ (nI 0)) (znw σ))) bu) 16 0 (zfrm (zwL (zth σ (nI 0)) (znw σ)) (znu (zwL (zth σ (nI 0)) (znw σ))) bu 16 0 + nI 1) g = zwL (zth σ (nI 0)) (znw σ) g := fun g hg => by
        rw [zup_f (by omega), r g (by omega) (by omega) (by omega) (by omega) (by omega) (by omega) (by omega) (by omega)]
      refine ⟨?_, ⟨f + 1, by omega, by rw [zup_s, r16, nI_add]⟩, ?_, ?_⟩
      · rw [q 17 (by decide), q 19 (by decide), q 20 (by decide), q 21 (by decide), q 22 (by decide)]; exact a1
      · unfold zW24; rw [q 23 (by decide), q 24 (by decide)]; exact a3
      · rw [q 26 (by decide)]; exact a4
    exact zo_ok hq hb hz kt e kp1 (by decide) (by decide) H1 (i1.row (fun g hg => zup_f (by omega))) i2 ((congrFun (zup_f (by decide)) 0).trans r27) (fun μ' Q mk => zCall.one (M83c mk hbu (by rw [ef]; exact fun q => h5 ((nI_eq (by omega) (by decide)).mp q)) nw.1 nw.2.1 (fun k hk => (iL k hk).ok) ⟨rfl, rfl⟩) Q)
theorem D20 {x : Int32} (lw : zLw b de h L xs c μ) : zDir b de h mi L xs 20 71 [.ref h, .int x] [.ref (h + 7), .int x] c μ := by
  obtain ⟨hb, kt, σ, n, A, K, B, V, N, e, H, ia, ib⟩ := lw
  have hN := ia.w0.2
  have hz := H.bs.2.2.2.2.2
  intro Q hq
  rcases zfd_is σ x n with ⟨hv, -⟩ | ⟨k, hk, -, -, hv⟩
  · rw [C20b H hN hv]
    refine hq _ _ (zokayD hb hz kt e zKp.refl (by decide) (by decide) (H.th (x := nI 0)) ia.th ib.th (fun μ' Q mk => ?_))
    rw [M71 mk ia.w0, if_pos (zfd0 hv)]; rfl
  · rw [C20a H hN ia.uq hv hk]
    refine hq _ _ (zokayD hb hz kt e zKp.refl (by decide) (by decide) (H.th (x := nI 0)) ia.th ib.th (fun μ' Q mk => ?_))
    rw [M71 mk ia.w0, if_neg (zfdk hv (by omega))]; rfl
theorem D21 (lw : zLw b de h L xs c μ) : zDir b de h mi L xs 21 72 [.ref h] [.ref (h + 7)] c μ := by
  obtain ⟨hb, kt, σ, n, A, K, B, V, N, e, H, ia, ib⟩ := lw
  intro Q hq
  rw [C21 H ia.w0.2]
  exact hq _ _ (zokayD hb H.bs.2.2.2.2.2 kt e zKp.refl (by decide) (by decide) H.th ia.th ib.th (fun μ' Q mk => M72 mk ia.w0))
theorem D29 (lw : zLw b de h L xs c μ) : zDir b de h mi L xs 29 84 [.ref h] [.ref (h + 7)] c μ := by
  obtain ⟨hb, kt, σ, n, A, K, B, V, N, e, H, ia, ib⟩ := lw
  intro Q hq
  rw [C29 H]
  exact hq _ _ (zokayD hb H.bs.2.2.2.2.2 kt e zKp.refl (by decide) (by decide) H.th ia.th ib.th (fun μ' Q mk => M84 mk))
theorem D31 (lw : zLw b de h L xs c μ) : zDir b de h mi L xs 31 86 [.ref h] [.ref (h + 7)] c μ := by
  obtain ⟨hb, kt, σ, n, A, K, B, V, N, e, H, ia, ib⟩ := lw
  intro Q hq
  rw [C31 H]
  exact hq _ _ (zokayD hb H.bs.2.2.2.2.2 kt e zKp.refl (by decide) (by decide) H.th ia.th ib.th (fun μ' Q mk => M86 mk))
theorem D33 (lw : zLw b de h L xs c μ) : zDir b de h mi L xs 33 89 [.ref h] [.ref (h + 7)] c μ := by
  obtain ⟨hb, kt, σ, n, A, K, B, V, N, e, H, ia, ib⟩ := lw
  intro Q hq
  rw [C33 H ia.w0.2]
  exact hq _ _ (zokayD hb H.bs.2.2.2.2.2 kt e zKp.refl (by decide) (by decide) H.th ia.th ib.th (fun μ' Q mk => M89 mk ia.w0))
theorem D34 (lw : zLw b de h L xs c μ) : zDir b de h mi L xs 34 90 [.ref h] [.ref (h + 7)] c μ := by
  obtain ⟨hb, kt, σ, n, A, K, B, V, N, e, H, ia, ib⟩ := lw
  intro Q hq
  rw [C34 H ia.w0.2]
  exact hq _ _ (zokayD hb H.bs.2.2.2.2.2 kt e zKp.refl (by decide) (by decide) H.th ia.th ib.th (fun μ' Q mk => M90 mk ia.w0))
theorem D30 (lw : zLw b de h L xs c μ) : zDir b de h mi L xs 30 85 [.ref h] [.ref (h + 7)] c μ := by
  obtain ⟨hb, kt, σ, n, A, K, B, V, N, e, H, ia, ib⟩ := lw
  intro Q hq
  have it := ia.th (x := nI 0)
  refine C30 (H.th (x := nI 0)) ia.w0.2 it.w11 (fun μ1 H1 kp1 => ?_)
  refine hq _ _ (zokayD hb H.bs.2.2.2.2.2 kt e kp1 (by decide) (by decide) H1 it.sw (ib.th.row (fun f h1 h2 => zsw_n (by omega) (by omega))) (fun μ' Q mk => ?_))
  rw [M85 mk ia.w0.2 ia.w11, zfr_th]
theorem D37 (lw : zLw b de h L xs c μ) : zDir b de h mi L xs 37 94 [.ref h] [.ref (h + 7)] c μ := by
  obtain ⟨hb, kt, σ, n, A, K, B, V, N, e, H, ia, ib⟩ := lw
  intro Q hq
  have it := ia.th (x := nI 0)
  have itb := ib.th (x := nI 0)
  obtain ⟨S, hS, eS, w24⟩ := itb.2.2.1
  have es : zns (zth σ (nI 0)) = S := by unfold zns; rw [eS, nI_clamp (by omega)]
  have eS' : σ 23 0 = nI S := by rw [thx (by decide)] at eS; exact eS
  have r : zHr (zth σ (nI 0)) n := ⟨it.w0.2, by omega, by rw [es]; exact w24, it.wc, itb.2.2.2⟩
  refine C37 (H.th (x := nI 0)) r ?_
  rw [es]
  exact hq _ _ (zokayD hb H.bs.2.2.2.2.2 kt e zKp.refl (by decide) (by decide) H.th it itb (fun μ' Q mk => M94 mk ia.w0.2 w24 hS eS'))
end AGREE2
