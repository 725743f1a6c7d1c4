/-! ===== the hall stands over what touches it not ===== -/
section SAME
variable {de h mi n : Nat} {μ μ' : zM} {σ : Nat → Nat → Int32} {A K : Nat → Nat} {B : Nat → Nat → Nat} {V N : Nat → Nat} {Q : zRes → zM → Prop}
theorem zHl'.same (H : zHl' de h μ σ n A K B V N) (hN : n ≤ 40) (w11 : zW11 σ n) (hS : zS μ ≤ zS μ') (hK : ∀ a, a < zS μ → zK μ' a = zK μ a) (hn : ∀ a, zS μ ≤ a → (zK μ' a).1 ≠ 1) (hz : ∀ a, zS μ' ≤ a → zK μ' a = (0, 0)) (hI : ∀ a, a < zS μ → ¬ (h + 7 ≤ a ∧ a ≤ h + 6) → zI μ' a = zI μ a) (hR : ∀ a, a < zS μ → zR μ' a = zR μ a) (hb : ∀ a, h + 7 ≤ a → a ≤ h + 6 → 8 ≤ (zK μ a).1) : zHl' de h μ' σ n A K B V N := by
  have b := H.bs
  have hs := b.2.2.2.2.2
  have hde := b.2.1
  have kz : ∀ a t w, zK μ a = (t, w) → t ≠ 0 → a < zS μ := fun a t w q q2 => b.lt (by rw [q]; exact q2)
  have lv : ∀ l t m f, (l ≤ h + 6 ∨ h + 6 < l) → (∀ k, k < m → f k < zS μ) → zLv de h μ l t m f → zLv de h μ' l t m f := by
    intro l t m f hl hf ⟨h1, h2, ⟨e, h3, h4, h5⟩, h6, h7⟩
    have ll := kz l 1 0 h1 (by decide)
    have le := b.2.2.2.2.1 l e (by rw [h1]) h3
    exact ⟨by rw [hK l ll]; exact h1, by rw [hI l ll (by omega)]; exact h2, ⟨e, by rw [hR l ll]; exact h3, by rw [hK e le]; exact h4, fun k hk => by rw [hR e le]; exact h5 k hk⟩, fun k hk => by rw [hK _ (hf k hk)]; exact h6 k hk, h7⟩
  have lA : ∀ k, k < n → A k < zS μ := fun k hk => kz _ _ _ (H.kA hk) (by decide)
  have iA : ∀ k, k < n → zI μ' (A k) = zI μ (A k) := fun k hk => hI _ (lA k hk) (by have := H.gA hk; omega)
  refine ⟨⟨hz, b.2.1, by rw [hK de (by omega)]; exact b.2.2.1, ?_, ?_, by omega⟩, ?_, ⟨lv _ _ _ _ (by omega) lA H.la, lv _ _ _ _ (by omega) (fun k hk => kz _ _ _ (H.kV hk) (by decide)) H.lw, lv _ _ _ _ (by omega) (fun k hk => kz _ _ _ (H.kN hk) (by decide)) H.ls, fun k hk => ⟨by rw [hR _ (lA k hk)]; exact H.ra hk, lv _ _ _ _ (Or.inr (H.gK hk)) (fun j hj => kz _ _ _ (H.kB hk hj) (by decide)) (H.lk hk), H.gK hk, H.gA hk⟩, fun i j hi hj => H.iA hi hj, fun i j hi hj => H.iK hi hj⟩, ?_, ?_, ?_, ⟨fun s hs => ?_, ?_⟩, ⟨?_, ?_⟩, fun k hk => ?_, fun s hs h0 => ?_⟩
  · intro l l' e q1 q2 q3 q4
    have l1 : l < zS μ := Classical.byContradiction fun z => hn l (by omega) q1
    have l2 : l' < zS μ := Classical.byContradiction fun z => hn l' (by omega) q2
    rw [hK l l1] at q1
    rw [hK l' l2] at q2
    rw [hR l l1] at q3
    rw [hR l' l2] at q4
    exact b.2.2.2.1 l l' e q1 q2 q3 q4
  · intro l e q1 q3
    have l1 : l < zS μ := Classical.byContradiction fun z => hn l (by omega) q1
    rw [hK l l1] at q1
    rw [hR l l1] at q3
    have := b.2.2.2.2.1 l e q1 q3
    omega
  · unfold zPt
    rw [hR h (by omega), hR (h + 2) (by omega), hK h (by omega), hK (h + 2) (by omega), hK (h + 3) (by omega), hK (h + 4) (by omega)]
    exact H.2.1
  · intro k hk j hj
    have kb := H.kB hk hj
    have lb := kz _ _ _ kb (by decide)
    rw [hR _ lb, hI _ lb (fun q => by have := hb _ q.1 q.2; rw [kb] at this; revert this; simp)]
    exact ⟨H.b0 hk hj, H.b1 hk hj⟩
  · intro k hk
    have kb := H.kV hk
    rw [hI _ (kz _ _ _ kb (by decide)) (fun q => by have := hb _ q.1 q.2; rw [kb] at this; revert this; simp)]
    exact H.wv hk
  · intro k hk
    have kb := H.kN hk
    have lb := kz _ _ _ kb (by decide)
    rw [hR _ lb, hI _ lb (fun q => by have := hb _ q.1 q.2; rw [kb] at this; revert this; simp)]
    exact ⟨H.n0 hk, H.n1 hk⟩
  · rw [hI (h + 4) (by omega) (by omega), hR (h + 3) (by omega)]
    exact ⟨H.ag hs, H.sl hs⟩
  · rw [hI (h + 2) (by omega) (by omega)]; exact H.nx
  · rw [hI h (by omega) (by omega)]; exact H.fr
  · rw [hI h (by omega) (by omega)]; exact H.er
  · rw [iA k hk]; exact H.co hk
  · have hl : zly σ s < n := by
      rcases w11 s hs with q | ⟨t, ht, q⟩
      · exact absurd q h0
      · rw [zlyt (by omega) q]; exact ht
    rw [iA _ hl]; exact H.c9 hs h0
/-- a throw -/
theorem zHl'.thr (H : zHl' de h μ σ n A K B V N) (hN : n ≤ 40) (w11 : zW11 σ n) (hb : ∀ a, h + 7 ≤ a → a ≤ h + 6 → 8 ≤ (zK μ a).1) : zHl' de h (znew μ 0 0 6) σ n A K B V N := by
  refine H.same hN w11 (Nat.le_succ _) (fun a ha => if_neg (by omega)) (fun a ha => ?_) (fun a ha => ?_) (fun a ha _ => ?_) (fun a ha => ?_) hb
  · rw [zK_new]
    by_cases q : a = zS μ
    · rw [if_pos q]; decide
    · rw [if_neg q, H.bs.1 a ha]; decide
  · rw [zS_new] at ha
    rw [zK_new, if_neg (by omega)]; exact H.bs.1 a (by omega)
  · funext j; rw [zI_new, if_neg (by omega)]
  · funext j; rw [zR_new, if_neg (by omega)]
theorem zKp.thr : zKp h 1 6 μ (znew μ 0 0 6) ∨ zS μ ≤ h + 6 := by
  by_cases q : zS μ ≤ h + 6
  · exact Or.inr q
  · refine Or.inl ⟨Nat.le_succ _, fun a ha => if_neg (by omega), fun a ha => ?_, fun a ha => ?_, Nat.le_refl _, Nat.le_refl _⟩
    · have : a ≠ zS μ := by unfold zpr at ha; omega
      exact ⟨by funext j; rw [zI_new, if_neg this], by funext j; rw [zR_new, if_neg this]⟩
    · have : a ≠ zS μ := by unfold zpr at ha; omega
      funext j; rw [zJ_new, if_neg this]
end SAME

