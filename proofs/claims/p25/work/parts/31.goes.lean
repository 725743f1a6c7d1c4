/-! ===== the model: the sweep in the gap of a frame ===== -/
/-- a marking: rows below i are noted -/
def zmr (σ : Nat → Nat → Int32) (i : Nat) : Nat → Nat → Int32 := fun f k => if f = 15 ∧ k < i then σ 10 k else σ f k
theorem zmr_n {σ : Nat → Nat → Int32} {i f : Nat} (h : f ≠ 15) : zmr σ i f = σ f := by funext k; exact if_neg (fun q => h q.1)
theorem zmr_up {σ : Nat → Nat → Int32} {i : Nat} : zup (zmr σ i) 15 i (σ 10 i) = zmr σ (i + 1) := by
  funext f k
  show (if f = 15 ∧ k = i then σ 10 i else if f = 15 ∧ k < i then σ 10 k else σ f k) = if f = 15 ∧ k < i + 1 then σ 10 k else σ f k
  by_cases h : f = 15
  · by_cases e : k = i
    · rw [if_pos ⟨h, e⟩, if_pos ⟨h, by omega⟩, e]
    · rw [if_neg (fun q => e q.2)]
      by_cases e2 : k < i
      · rw [if_pos ⟨h, e2⟩, if_pos ⟨h, by omega⟩]
      · rw [if_neg (fun q => e2 q.2), if_neg (fun q => e2 (by omega))]
  · rw [if_neg (fun q => h q.1), if_neg (fun q => h q.1), if_neg (fun q => h q.1)]
def zmk (σ : Nat → Nat → Int32) (n : Nat) : Nat → Nat → Int32 := zup (zmr (zup σ 14 0 (nI n)) n) 13 0 (nI 0)
/-- a look at slot s -/
def zlv1 (σ : Nat → Nat → Int32) (s : Nat) : Int32 := if σ 11 s ≠ 0 ∧ nI ((σ 11 s).toNatClampNeg - 1) < σ 14 0 ∧ σ 15 ((σ 11 s).toNatClampNeg - 1) = 0 then 0 else σ 11 s
def zlk (σ : Nat → Nat → Int32) (s : Nat) : Nat → Nat → Int32 := zup (zup σ 11 s (zlv1 σ s)) 13 0 (if s = 11 then -nI 1 else nI (s + 1))
def zge (n : Nat) : Nat → Nat → (Nat → Nat → Int32) → Nat → Nat → Int32
  | 0, _, σ => σ
  | f + 1, b, σ => if σ 13 0 < 0 then (if b < 4 then σ else zge n f (b - 4) (zmk σ n)) else (if b < 1 then σ else zge n f (b - 1) (zlk σ (σ 13 0).toNatClampNeg))
def zW13 (σ : Nat → Nat → Int32) (n : Nat) : Prop := (σ 13 0 = -nI 1 ∨ ∃ s, s < 12 ∧ σ 13 0 = nI s) ∧ ∃ bf, bf ≤ n ∧ σ 14 0 = nI bf
theorem zmk_0 {σ : Nat → Nat → Int32} {n f : Nat} (h : f ≠ 13) (h' : f ≠ 14) (h'' : f ≠ 15) : zmk σ n f = σ f := by unfold zmk; rw [zup_f h, zmr_n h'', zup_f h']
theorem zlk_0 {σ : Nat → Nat → Int32} {s f : Nat} (h : f ≠ 13) (h' : f ≠ 11) : zlk σ s f = σ f := by unfold zlk; rw [zup_f h, zup_f h']
theorem zmk_W {σ : Nat → Nat → Int32} {n : Nat} (h0 : zW0 σ n) (h1 : zW11 σ n) : zW0 (zmk σ n) n ∧ zW11 (zmk σ n) n ∧ zW13 (zmk σ n) n := by
  refine ⟨⟨by rw [zmk_0 (by decide) (by decide) (by decide)]; exact h0.1, h0.2⟩, fun s hs => by rw [zmk_0 (by decide) (by decide) (by decide)]; exact h1 s hs, Or.inr ⟨0, by decide, zup_s⟩, n, Nat.le_refl n, ?_⟩
  unfold zmk
  rw [zup_f (by decide), zmr_n (by decide)]
  exact zup_s
theorem zlk_W {σ : Nat → Nat → Int32} {n s : Nat} (h0 : zW0 σ n) (h1 : zW11 σ n) (h2 : zW13 σ n) (hs : s < 12) : zW0 (zlk σ s) n ∧ zW11 (zlk σ s) n ∧ zW13 (zlk σ s) n := by
  refine ⟨⟨by rw [zlk_0 (by decide) (by decide)]; exact h0.1, h0.2⟩, fun i hi => ?_, ?_, ?_⟩
  · unfold zlk
    rw [zup_f (by decide)]
    by_cases e : i = s
    · rw [e, zup_s]
      unfold zlv1
      split
      · exact Or.inl rfl
      · exact h1 s hs
    · rw [zup_k e]; exact h1 i hi
  · unfold zlk
    rw [zup_s]
    by_cases e : s = 11
    · rw [if_pos e]; exact Or.inl rfl
    · rw [if_neg e]; exact Or.inr ⟨s + 1, by omega, rfl⟩
  · obtain ⟨bf, hb, e⟩ := h2.2
    exact ⟨bf, hb, by rw [zlk_0 (by decide) (by decide)]; exact e⟩
/-! ===== the model: what is heard ===== -/
/-- the sound k can be heard -/
def zca (σ : Nat → Nat → Int32) (k : Nat) : Bool := decide (σ 10 (σ 24 k).toNatClampNeg ≠ 0 ∧ σ 16 0 - σ 25 k < nI 5)
def zfa (σ : Nat → Nat → Int32) (k : Nat) : Int32 := if zca σ k then (if σ 2 (σ 24 k).toNatClampNeg - σ 26 0 < 0 then -(σ 2 (σ 24 k).toNatClampNeg - σ 26 0) else σ 2 (σ 24 k).toNatClampNeg - σ 26 0) else nI 99
def zW24 (σ : Nat → Nat → Int32) (n S : Nat) : Prop := ∀ k, k < S → ∃ t, t < n ∧ σ 24 k = nI t
