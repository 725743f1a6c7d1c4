/-! ===== one call on both sides: what stands between the law's calls ===== -/
/-- what the law holds besides hall and model -/
def zKt (b h L : Nat) (xs : Nat → Int32) (c : Nat) (μ : zM) : Prop := zMK μ (h + 7) ∧ zK μ (h + 28) = (13, 1) ∧ zK μ b = (14, L) ∧ (∀ k, zI μ b k = xs k) ∧ zC μ ≤ 100 + 64 * c ∧ zL μ ≤ 3000 + 1700 * c
/-- the law's memory ahead of call c -/
def zLw (b de h L : Nat) (xs : Nat → Int32) (c : Nat) (μ : zM) : Prop := b < h ∧ zKt b h L xs c μ ∧ ∃ σ n A K B V N, μ = zmI μ (h + 7) σ ∧ zHl' de h μ σ n A K B V N ∧ zIA σ n ∧ zIB σ n
def zPost (b de h mi L : Nat) (xs : Nat → Int32) (X : Nat) (bs : List Value) (k : Int32) (c : Nat) (μ1 : zM) : Prop := zK μ1 b = (14, L) ∧ (∀ j, zI μ1 b j = xs j) ∧ zK μ1 (h + 7) = (8, 0) ∧ ∀ Q, (∀ r μ2, zLw b de h L xs (c + 1) μ2 → zI μ2 (h + 7) 27 = k → (k = nI 0 → zJ μ2 (h + 28) 0 = r.toInt64) → Q (.inl (some (.int r))) μ2) → zCall de mi X bs μ1 Q
def zPair (b de h mi L : Nat) (xs : Nat → Int32) (Y X : Nat) (as bs : List Value) (c : Nat) (μ : zM) : Prop := ∀ Q, (∀ k μ1, zPost b de h mi L xs X bs k c μ1 → Q (.inl (some (.int k))) μ1) → zCall de mi Y as μ Q
def zPostD (b de h mi L : Nat) (xs : Nat → Int32) (X : Nat) (bs : List Value) (v : Int32) (c : Nat) (μ1 : zM) : Prop := zK μ1 b = (14, L) ∧ (∀ j, zI μ1 b j = xs j) ∧ zK μ1 (h + 7) = (8, 0) ∧ ∀ Q, (∀ μ2, zLw b de h L xs (c + 1) μ2 → Q (.inl (some (.int v))) μ2) → zCall de mi X bs μ1 Q
def zDir (b de h mi L : Nat) (xs : Nat → Int32) (Y X : Nat) (as bs : List Value) (c : Nat) (μ : zM) : Prop := ∀ Q, (∀ v μ1, zPostD b de h mi L xs X bs v c μ1 → Q (.inl (some (.int v))) μ1) → zCall de mi Y as μ Q
/-- what a call with a catch gives -/
def zWr (h : Nat) (Q : zRes → zM → Prop) (cd : Nat → Nat) : zRes → zM → Prop := fun r μ1 => match r with
  | .inl v => ∃ x, v = some (.int x) ∧ zK μ1 (h + 28) = (13, 1) ∧ Q (.inl (some (.int (nI 0)))) (zsJ μ1 (h + 28) 0 x.toInt64)
  | .inr E => cd E ≠ 0 ∧ Q (.inl (some (.int (nI (cd E))))) μ1
section PAIRS
variable {b de h mi n L c : Nat} {xs : Nat → Int32} {μ μ' μ1 : zM} {σ σ' τ : Nat → Nat → Int32} {A K A' K' : Nat → Nat} {B B' : Nat → Nat → Nat} {V N V' N' : Nat → Nat} {Q : zRes → zM → Prop}
theorem zKt.md (kt : zKt b h L xs c μ) : zMd h μ := by
  intro a h1 h2
  by_cases q : a = h + 7
  · rw [q, mk0 kt.1]; decide
  · have := (kt.1.2 (a - (h + 7)) (by omega) (by omega)).2
    rw [show h + 7 + (a - (h + 7)) = a by omega] at this
    rw [this]
    unfold zkl
    simp only
    split <;> omega
theorem zKt.kp {cc ss : Nat} (hb : b < h) (hz : h + 28 < zS μ) (kt : zKt b h L xs c μ) (kp : zKp h cc ss μ μ1) (hc : cc ≤ 64) (hs : ss ≤ 1700) : zKt b h L xs (c + 1) μ1 := by
  obtain ⟨mk, ko, kb, ib, hC, hL⟩ := kt
  obtain ⟨p1, p2, p3, p4, p5, p6⟩ := kp
  have rm := (p3 (h + 7) (Or.inr (by omega))).2
  refine ⟨⟨by rw [p2 _ (by omega)]; exact mk.1, fun j h1 h2 => ?_⟩, by rw [p2 _ (by omega)]; exact ko, by rw [p2 _ (by omega)]; exact kb, fun k => by rw [(p3 b (Or.inl hb)).1]; exact ib k, by omega, by omega⟩
  rw [rm, p2 _ (by omega)]; exact mk.2 j h1 h2
theorem zKt.mwr (hb : b < h) (kt : zKt b h L xs c μ) : zKt b h L xs c (zmI μ (h + 7) τ) := by
  obtain ⟨mk, ko, kb, ib, hC, hL⟩ := kt
  exact ⟨mk, ko, kb, fun k => by rw [zI_mI_out (by omega)]; exact ib k, hC, hL⟩
theorem zmI_self {m : Nat} : zmI (zmI μ m σ) m τ = zmI μ m τ := by
  refine Prod.ext rfl (Prod.ext ?_ rfl)
  funext a k
  show zI (zmI (zmI μ m σ) m τ) a k = zI (zmI μ m τ) a k
  rw [zI_mI, zI_mI, zI_mI]
  by_cases q : m ≤ a ∧ a ≤ m + 20
  · rw [if_pos q, if_pos q]
  · rw [if_neg q, if_neg q, if_neg q]
theorem zHl'.row (H : zHl' de h μ σ n A K B V N) (e : ∀ f, f ≠ 27 → σ' f = σ f) : zHl' de h μ σ' n A K B V N := by
  have yl : ∀ s, zly σ' s = zly σ s := fun s => by unfold zly; rw [e 11 (by decide)]
  refine H.re rfl rfl (fun _ _ => rfl) (fun _ _ => rfl) (fun f hf => e f (by omega)) ⟨fun s hs => ?_, ?_⟩ ⟨?_, ?_⟩ (fun k hk => ?_) (fun s hs h0 => ?_)
  · rw [e 12 (by decide), e 11 (by decide), yl]; exact ⟨H.ag hs, H.sl hs⟩
  · rw [e 13 (by decide)]; exact H.nx
  · rw [e 16 (by decide)]; exact H.fr
  · rw [e 26 (by decide)]; exact H.er
  · rw [e 1 (by decide), e 2 (by decide), e 3 (by decide), e 4 (by decide), e 5 (by decide), e 6 (by decide), e 10 (by decide)]; exact H.co hk
  · rw [e 11 (by decide)] at h0
    have el : ∀ k, zlost σ' k = zlost σ k := fun k => by unfold zlost; rw [e 14 (by decide), e 15 (by decide)]
    rw [yl, el]; exact H.c9 hs h0
theorem zHl'.th {x : Int32} (H : zHl' de h μ σ n A K B V N) : zHl' de h μ (zth σ x) n A K B V N := H.row (fun f hf => zthr hf)
theorem zHl'.J {a k : Nat} {v : Int64} (H : zHl' de h μ σ n A K B V N) (hN : n ≤ 40) (w11 : zW11 σ n) (md : zMd h μ) : zHl' de h (zsJ μ a k v) σ n A K B V N := H.same hN w11 (Nat.le_refl _) (fun _ _ => rfl) (fun a ha => by show (zK μ a).1 ≠ 1; rw [H.bs.1 a ha]; decide) (fun a ha => H.bs.1 a ha) (fun _ _ _ => rfl) (fun _ _ => rfl) md
theorem zIA.th {x : Int32} (i : zIA σ n) : zIA (zth σ x) n := i.row (fun f hf => zthr (by omega))
theorem zIB.th {x : Int32} (i : zIB σ n) : zIB (zth σ x) n := i.row (fun f _ _ => zthr (by omega))
/-- the law's memory behind a call -/
theorem znext (hb : b < h) (kt : zKt b h L xs c μ) (H : zHl' de h μ σ n A K B V N) (ia : zIA σ n) (ib : zIB σ n) : zLw b de h L xs c (zmI μ (h + 7) σ) := ⟨hb, kt.mwr hb, σ, n, A, K, B, V, N, zmI_self.symm, H.mod ia.w0.2 ia.w11 rfl kt.md, ia, ib⟩
theorem zo_thr {X k : Nat} {bs : List Value} {r : Int32} (hb : b < h) (kt : zKt b h L xs c μ) (e : μ = zmI μ (h + 7) σ) (H : zHl' de h μ σ n A K B V N) (ia : zIA σ n) (ib : zIB σ n) (hk : nI k ≠ nI 0) (hM : ∀ μ' Q, zMK μ' (h + 7) → zCall de mi X bs (zmI μ' (h + 7) σ) Q = Q (.inl (some (.int r))) (zmI μ' (h + 7) (zth σ (nI k)))) : zPost b de h mi L xs X bs (nI k) c (znew μ 0 0 6) := by
  have hz := H.bs.2.2.2.2.2
  have kp : zKp h 1 6 μ (znew μ 0 0 6) := zKp.thr.resolve_right (by omega)
  have kt1 := kt.kp hb hz kp (by decide) (by decide)
  have e1 := zmI_keep rfl kp e
  have H1 := H.thr ia.w0.2 ia.w11 kt.md
  refine ⟨kt1.2.2.1, kt1.2.2.2.1, kt1.1.1, fun Q hq => ?_⟩
  have m := hM (znew μ 0 0 6) Q kt1.1
  rw [← e1] at m
  rw [m]
  exact hq r _ (znext hb kt1 H1.th ia.th ib.th) (ms27.trans zup_s) (fun q => absurd q hk)
theorem zokay {X cc ss n' : Nat} {bs : List Value} {r : Int32} (hb : b < h) (hz : h + 28 < zS μ) (kt : zKt b h L xs c μ) (e : μ = zmI μ (h + 7) σ) (kp : zKp h cc ss μ μ1) (hc : cc ≤ 64) (hs : ss ≤ 1700) (H1 : zHl' de h μ1 σ' n' A' K' B' V' N') (ia : zIA σ' n') (ib : zIB σ' n') (t0 : σ' 27 0 = nI 0) (hM : ∀ μ' Q, zMK μ' (h + 7) → zCall de mi X bs (zmI μ' (h + 7) σ) Q = Q (.inl (some (.int r))) (zmI μ' (h + 7) σ')) : zPost b de h mi L xs X bs (nI 0) c (zsJ μ1 (h + 28) 0 r.toInt64) := by
  have kt1 := kt.kp hb hz kp hc hs
  have e1 := zmI_keep rfl kp e
  have kt2 : zKt b h L xs (c + 1) (zsJ μ1 (h + 28) 0 r.toInt64) := kt1
  have e2 : zsJ μ1 (h + 28) 0 r.toInt64 = zmI (zsJ μ1 (h + 28) 0 r.toInt64) (h + 7) σ := Prod.ext rfl (Prod.ext (congrArg (fun m => m.2.1) e1) rfl)
  have H2 := H1.J (a := h + 28) (k := 0) (v := r.toInt64) ia.w0.2 ia.w11 kt1.md
  refine ⟨kt2.2.2.1, kt2.2.2.2.1, kt2.1.1, fun Q hq => ?_⟩
  have m := hM (zsJ μ1 (h + 28) 0 r.toInt64) Q kt2.1
  rw [← e2] at m
  rw [m]
  exact hq r _ (znext hb kt2 H2 ia ib) (ms27.trans t0) (fun _ => zup_s)
theorem zokayD {X cc ss n' : Nat} {bs : List Value} {r : Int32} (hb : b < h) (hz : h + 28 < zS μ) (kt : zKt b h L xs c μ) (e : μ = zmI μ (h + 7) σ) (kp : zKp h cc ss μ μ1) (hc : cc ≤ 64) (hs : ss ≤ 1700) (H1 : zHl' de h μ1 σ' n' A' K' B' V' N') (ia : zIA σ' n') (ib : zIB σ' n') (hM : ∀ μ' Q, zMK μ' (h + 7) → zCall de mi X bs (zmI μ' (h + 7) σ) Q = Q (.inl (some (.int r))) (zmI μ' (h + 7) σ')) : zPostD b de h mi L xs X bs r c μ1 := by
  have kt1 := kt.kp hb hz kp hc hs
  have e1 := zmI_keep rfl kp e
  refine ⟨kt1.2.2.1, kt1.2.2.2.1, kt1.1.1, fun Q hq => ?_⟩
  have m := hM μ1 Q kt1.1
  rw [← e1] at m
  rw [m]
  exact hq _ (znext hb kt1 H1 ia ib)
theorem zo_ok {cc ss n' : Nat} {r : Int32} {cd : Nat → Nat} {X : Nat} {bs : List Value} (hq : ∀ k μ1, zPost b de h mi L xs X bs k c μ1 → Q (.inl (some (.int k))) μ1) (hb : b < h) (hz : h + 28 < zS μ) (kt : zKt b h L xs c μ) (e : μ = zmI μ (h + 7) σ) (kp : zKp h cc ss μ μ1) (hc : cc ≤ 64) (hs : ss ≤ 1700) (H1 : zHl' de h μ1 σ' n' A' K' B' V' N') (ia : zIA σ' n') (ib : zIB σ' n') (t0 : σ' 27 0 = nI 0) (hM : ∀ μ' Q, zMK μ' (h + 7) → zCall de mi X bs (zmI μ' (h + 7) σ) Q = Q (.inl (some (.int r))) (zmI μ' (h + 7) σ')) : zWr h Q cd (.inl (some (.int r))) μ1 :=
  ⟨r, rfl, (kt.kp hb hz kp hc hs).2.1, hq _ _ (zokay hb hz kt e kp hc hs H1 ia ib t0 hM)⟩
theorem zo_th {E : Nat} {r : Int32} {cd : Nat → Nat} {X : Nat} {bs : List Value} (hq : ∀ k μ1, zPost b de h mi L xs X bs k c μ1 → Q (.inl (some (.int k))) μ1) (hb : b < h) (kt : zKt b h L xs c μ) (e : μ = zmI μ (h + 7) σ) (H : zHl' de h μ σ n A K B V N) (ia : zIA σ n) (ib : zIB σ n) (h1 : cd E ≠ 0) (h2 : cd E < 4) (hM : ∀ μ' Q, zMK μ' (h + 7) → zCall de mi X bs (zmI μ' (h + 7) σ) Q = Q (.inl (some (.int r))) (zmI μ' (h + 7) (zth σ (nI (cd E))))) : zWr h Q cd (.inr E) (znew μ 0 0 6) :=
  ⟨h1, hq _ _ (zo_thr hb kt e H ia ib (fun q => h1 ((nI_eq (by omega) (by decide)).mp q)) hM)⟩
/-- which catch takes what -/
def zcd3 (E : Nat) : Nat := if E < 3 then E + 1 else 0
def zcd0 (E : Nat) : Nat := if E = 0 then 1 else 0
def zcd1 (E : Nat) : Nat := if E = 1 then 1 else 0
def zcd02 (E : Nat) : Nat := if E = 0 then 1 else if E = 2 then 2 else 0
def zcd12 (E : Nat) : Nat := if E = 1 then 1 else if E = 2 then 2 else 0
theorem zfd0 {x : Int32} (h : zfd σ x n = -nI 1) : zfd σ x n < 0 := by rw [h]; exact n1neg
theorem zfdk {x : Int32} {k : Nat} (h : zfd σ x n = nI k) (hk : k < 1000) : ¬ zfd σ x n < 0 := by rw [h]; exact nI_pos (by omega)
end PAIRS
