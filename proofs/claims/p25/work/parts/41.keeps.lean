/-! ===== what a call of the class keeps; one write ===== -/
def zKp (h c s : Nat) (μ μ' : zM) : Prop := zS μ ≤ zS μ' ∧ (∀ a, a < zS μ → zK μ' a = zK μ a) ∧ (∀ a, zpr h a → zI μ' a = zI μ a ∧ zR μ' a = zR μ a) ∧ (∀ a, zpr h a → zJ μ' a = zJ μ a) ∧ zC μ' ≤ zC μ + c ∧ zL μ' ≤ zL μ + s
theorem zKp.refl {h : Nat} {μ : zM} : zKp h 0 0 μ μ := ⟨Nat.le_refl _, fun _ _ => rfl, fun _ _ => ⟨rfl, rfl⟩, fun _ _ => rfl, Nat.le_refl _, Nat.le_refl _⟩
theorem zKp.trans {h c s c' s' : Nat} {μ μ1 μ2 : zM} (a : zKp h c s μ μ1) (b : zKp h c' s' μ1 μ2) : zKp h (c + c') (s + s') μ μ2 := by
  obtain ⟨a1, a2, a3, a4, a5, a6⟩ := a
  obtain ⟨b1, b2, b3, b4, b5, b6⟩ := b
  exact ⟨Nat.le_trans a1 b1, fun x hx => (b2 x (by omega)).trans (a2 x hx), fun x hx => ⟨(b3 x hx).1.trans (a3 x hx).1, (b3 x hx).2.trans (a3 x hx).2⟩, fun x hx => (b4 x hx).trans (a4 x hx), by omega, by omega⟩
theorem zKp.mono {h c s c' s' : Nat} {μ μ1 : zM} (a : zKp h c s μ μ1) (hc : c ≤ c') (hs : s ≤ s') : zKp h c' s' μ μ1 := by
  obtain ⟨a1, a2, a3, a4, a5, a6⟩ := a
  exact ⟨a1, a2, a3, a4, by omega, by omega⟩
theorem zKp.putI {h a k : Nat} {x : Int32} {μ : zM} (ha : ¬ zpr h a) : zKp h 0 0 μ (zsI μ a k x) := ⟨Nat.le_refl _, fun _ _ => rfl, fun b hb => ⟨zup_f (fun q => ha (q ▸ hb)), rfl⟩, fun _ _ => rfl, Nat.le_refl _, Nat.le_refl _⟩
theorem zKp.putR {h a k : Nat} {x : Option Nat} {μ : zM} (ha : ¬ zpr h a) : zKp h 0 0 μ (zsR μ a k x) := ⟨Nat.le_refl _, fun _ _ => rfl, fun b hb => ⟨rfl, zup_f (fun q => ha (q ▸ hb))⟩, fun _ _ => rfl, Nat.le_refl _, Nat.le_refl _⟩
theorem zpr_gt {h a : Nat} (ha : h + 6 < a) : ¬ zpr h a := by unfold zpr; omega
theorem zpr_h {h j : Nat} (hj : j ≤ 6) : ¬ zpr h (h + j) := by unfold zpr; omega
section KEEPS
variable {de h mi n : Nat} {μ μ' : zM} {σ σ' : Nat → Nat → Int32} {A K : Nat → Nat} {B : Nat → Nat → Nat} {V N : Nat → Nat} {Q : zRes → zM → Prop}
theorem zHl'.re (H : zHl' de h μ σ n A K B V N) (hK : zK μ' = zK μ) (hS : zS μ' = zS μ) (hI : ∀ a, (zK μ a).1 = 1 ∨ (zK μ a).1 = 3 ∨ (zK μ a).1 = 5 ∨ (zK μ a).1 = 6 → zI μ' a = zI μ a) (hR : ∀ a, a ≠ h + 3 → zR μ' a = zR μ a) (hσ : ∀ f, f = 7 ∨ f = 8 ∨ f = 9 ∨ (17 ≤ f ∧ f ≤ 25) → σ' f = σ f) (st : zSt h μ' σ' A) (sc : zSc h μ' σ') (co : zCo μ' σ' n A) (lt : zLt μ' σ' A) : zHl' de h μ' σ' n A K B V N := by
  have b := H.bs
  have no1 : ∀ l, (zK μ l).1 = 1 → l ≠ h + 3 := fun l hl q => by rw [q, H.k3] at hl; exact absurd hl (by decide)
  have lv : ∀ l t m f, zLv de h μ l t m f → zLv de h μ' l t m f := by
    intro l t m f ⟨h1, h2, ⟨e, h3, h4, h5⟩, h6⟩
    have eR : e ≠ h + 3 := by
      rcases h4 with ⟨q, -⟩ | ⟨q, -⟩
      · have := b.2.1; omega
      · omega
    refine ⟨by rw [hK]; exact h1, by rw [hI l (Or.inl (by rw [h1]))]; exact h2, ⟨e, by rw [hR l (no1 l (by rw [h1]))]; exact h3, by rw [hK]; exact h4, fun k hk => by rw [hR e eR]; exact h5 k hk⟩, by rw [hK]; exact h6⟩
  have e7 : ∀ k, znl σ' k = znl σ k := fun k => by unfold znl; rw [hσ 7 (by omega)]
  have e8 : ∀ k, ztg σ' k = ztg σ k := fun k => by unfold ztg; rw [hσ 8 (by omega)]
  have e17 : znw σ' = znw σ := by unfold znw; rw [hσ 17 (by omega)]
  have e23 : zns σ' = zns σ := by unfold zns; rw [hσ 23 (by omega)]
  have kne : ∀ a t, zK μ a = (t, 0) → a ≠ h + 3 := fun a t q q2 => by rw [q2, H.k3] at q; exact absurd (congrArg Prod.snd q) (by simp)
  refine ⟨⟨by rw [hK, hS]; exact b.1, b.2.1, by rw [hK]; exact b.2.2.1, ?_, ?_, by rw [hS]; exact b.2.2.2.2.2⟩, ?_, ⟨lv _ _ _ _ H.la, by rw [e17]; exact lv _ _ _ _ H.lw, by rw [e23]; exact lv _ _ _ _ H.ls, fun k hk => ⟨by rw [hR _ (kne _ _ (H.kA hk))]; exact H.ra hk, by rw [e7]; exact lv _ _ _ _ (H.lk hk), H.gK hk, H.gA hk⟩, fun i j hi hj => H.iA hi hj, fun i j hi hj => H.iK hi hj⟩, ?_, ?_, ?_, st, sc, co, lt⟩
  · intro l l' e q1 q2 q3 q4
    rw [hK] at q1 q2
    rw [hR l (no1 l q1)] at q3
    rw [hR l' (no1 l' q2)] at q4
    exact b.2.2.2.1 l l' e q1 q2 q3 q4
  · intro l e q1 q3
    rw [hK] at q1
    rw [hR l (no1 l q1)] at q3
    rw [hS]
    exact b.2.2.2.2.1 l e q1 q3
  · have rh := hR h (by omega)
    have r2 := hR (h + 2) (by omega)
    unfold zPt
    rw [hK, rh, r2]
    exact H.2.1
  · intro k hk j hj
    rw [e7] at hj
    have kb := H.kB hk hj
    rw [hR _ (kne _ _ kb), hI _ (Or.inr (Or.inl (by rw [kb]))), e8, hσ 9 (by omega)]
    exact ⟨H.b0 hk hj, H.b1 hk hj⟩
  · intro k hk
    rw [e17] at hk
    rw [hI _ (Or.inr (Or.inr (Or.inr (by rw [H.kV hk])))), hσ 18 (by omega), hσ 19 (by omega), hσ 20 (by omega), hσ 21 (by omega), hσ 22 (by omega)]
    exact H.wv hk
  · intro k hk
    rw [e23] at hk
    have kn := H.kN hk
    rw [hR _ (kne _ _ kn), hI _ (Or.inr (Or.inr (Or.inl (by rw [kn])))), hσ 24 (by omega), hσ 25 (by omega)]
    exact ⟨H.n0 hk, H.n1 hk⟩
/-- Actor field j stands for row f -/
def zcf (j f : Nat) : Prop := (j = 3 ∧ f = 1) ∨ (j = 4 ∧ f = 2) ∨ (j = 5 ∧ f = 3) ∨ (j = 6 ∧ f = 5) ∨ (j = 7 ∧ f = 6) ∨ (j = 8 ∧ f = 10)
theorem zHl'.putA {j f k : Nat} {x : Int32} (H : zHl' de h μ σ n A K B V N) (w11 : zW11 σ n) (hn : n ≤ 40) (hc : zcf j f) (hk : k < n) : zHl' de h (zsI μ (A k) j x) (zup σ f k x) n A K B V N := by
  have kk := H.kA hk
  have ne : ∀ a t w, zK μ a = (t, w) → t ≠ 2 → zI (zsI μ (A k) j x) a = zI μ a := fun a t w q q2 => zup_f (fun z => by rw [z, kk] at q; exact q2 (congrArg Prod.fst q).symm)
  have hf : f ≠ 4 ∧ f < 11 ∧ f ≠ 7 ∧ f ≠ 8 ∧ f ≠ 9 := by unfold zcf at hc; omega
  have sg : ∀ g, 11 ≤ g → zup σ f k x g = σ g := fun g hg => zup_f (by omega)
  have yl : ∀ s, zly (zup σ f k x) s = zly σ s := fun s => by unfold zly; rw [sg 11 (by decide)]
  refine H.re rfl rfl (fun a ha => ?_) (fun a _ => rfl) (fun g hg => zup_f (by omega)) ⟨fun s hs => ?_, ?_⟩ ⟨?_, ?_⟩ (fun i hi => ?_) (fun s hs h0 => ?_)
  · exact zup_f (fun z => by rw [z, kk] at ha; revert ha; simp)
  · rw [ne _ _ _ H.k4 (by decide), sg 12 (by decide), sg 11 (by decide), yl]
    exact ⟨H.ag hs, H.sl hs⟩
  · rw [ne _ _ _ H.k2 (by decide), sg 13 (by decide)]; exact H.nx
  · rw [ne _ _ _ H.kh (by decide), sg 16 (by decide)]; exact H.fr
  · rw [ne _ _ _ H.kh (by decide), sg 26 (by decide)]; exact H.er
  · have co := H.co hi
    by_cases e : i = k
    · subst e
      have r : ∀ j', j' ≠ j → zI (zsI μ (A i) j x) (A i) j' = zI μ (A i) j' := fun j' q => zup_k q
      have rf : ∀ f', f' ≠ f → zup σ f i x f' i = σ f' i := fun f' q => congrFun (zup_f q) i
      have s1 : zI (zsI μ (A i) j x) (A i) j = x := zup_s
      have s2 : zup σ f i x f i = x := zup_s
      unfold zcf at hc
      rcases hc with ⟨rfl, rfl⟩ | ⟨rfl, rfl⟩ | ⟨rfl, rfl⟩ | ⟨rfl, rfl⟩ | ⟨rfl, rfl⟩ | ⟨rfl, rfl⟩ <;> simp (decide := true) only [s1, s2, r, rf, ne_eq, not_false_eq_true, co, and_self]
    · have r : zI (zsI μ (A k) j x) (A i) = zI μ (A i) := zup_f (fun z => e (H.iA hi hk z))
      have rf : ∀ f', zup σ f k x f' i = σ f' i := fun f' => zup_k e
      simp only [r, rf]
      exact co
  · rw [sg 11 (by decide)] at h0
    rw [yl]
    have hl : zly σ s < n := by
      rcases w11 s hs with q | ⟨t, ht, q⟩
      · exact absurd q h0
      · unfold zly; rw [q, nI_clamp (by omega)]; omega
    have e9 : zlost (zup σ f k x) (zly σ s) = zlost σ (zly σ s) := by unfold zlost; rw [sg 14 (by decide), sg 15 (by decide)]
    rw [e9]
    have j9 : 9 ≠ j := by unfold zcf at hc; omega
    exact (zup_k j9).trans (H.c9 hs h0)
end KEEPS

