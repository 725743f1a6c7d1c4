/-! ===== the model: heard, the frame ===== -/
/-- sound j is ahead of sound i -/
def zrl (σ : Nat → Nat → Int32) (i j : Nat) : Bool := decide (zfa σ j < zfa σ i ∨ (zfa σ j = zfa σ i ∧ j < i))
def zse (σ : Nat → Nat → Int32) (S : Nat) : Nat → Int32
  | 0 => nI 0
  | i + 1 => zse σ S i ||| (if zfa σ i < nI 99 ∧ zcn (zrl σ i) S < 3 then nI 1 <<< (nI i &&& 31) else nI 0)
/-! ===== the frame ===== -/
/-- row f below i put anew -/
def zrw (σ : Nat → Nat → Int32) (f i : Nat) (g : Nat → Int32) : Nat → Nat → Int32 := fun f' k => if f' = f ∧ k < i then g k else σ f' k
theorem zrw_n {σ : Nat → Nat → Int32} {f i f' : Nat} {g : Nat → Int32} (h : f' ≠ f) : zrw σ f i g f' = σ f' := by funext k; exact if_neg (fun q => h q.1)
theorem zrw_g {σ : Nat → Nat → Int32} {f i k : Nat} {g : Nat → Int32} (h : i ≤ k) : zrw σ f i g f k = σ f k := if_neg (fun q => by omega)
theorem zrw_l {σ : Nat → Nat → Int32} {f i k : Nat} {g : Nat → Int32} (h : k < i) : zrw σ f i g f k = g k := if_pos ⟨rfl, h⟩
theorem zrw_0 {σ : Nat → Nat → Int32} {f : Nat} {g : Nat → Int32} : zrw σ f 0 g = σ := by funext f' k; exact if_neg (fun q => Nat.not_lt_zero _ q.2)
theorem zrw_up {σ : Nat → Nat → Int32} {f i : Nat} {g : Nat → Int32} {x : Int32} (hx : x = g i) : zup (zrw σ f i g) f i x = zrw σ f (i + 1) g := by
  funext f' k
  show (if f' = f ∧ k = i then x else if f' = f ∧ k < i then g k else σ f' k) = if f' = f ∧ k < i + 1 then g k else σ f' k
  by_cases h : f' = f
  · by_cases e : k = i
    · rw [if_pos ⟨h, e⟩, if_pos ⟨h, by omega⟩, hx, e]
    · rw [if_neg (fun q => e q.2)]
      by_cases e2 : k < i
      · rw [if_pos ⟨h, e2⟩, if_pos ⟨h, by omega⟩]
      · rw [if_neg (fun q => e2 q.2), if_neg (fun q => e2 (by omega))]
  · rw [if_neg (fun q => h q.1), if_neg (fun q => h q.1), if_neg (fun q => h q.1)]
theorem zrw_skip {σ : Nat → Nat → Int32} {f i : Nat} {g : Nat → Int32} (hx : g i = σ f i) : zrw σ f (i + 1) g = zrw σ f i g := by
  funext f' k
  show (if f' = f ∧ k < i + 1 then g k else σ f' k) = if f' = f ∧ k < i then g k else σ f' k
  by_cases h : f' = f
  · by_cases e : k = i
    · rw [if_pos ⟨h, by omega⟩, if_neg (fun q => by omega), e, hx, h]
    · by_cases e2 : k < i
      · rw [if_pos ⟨h, by omega⟩, if_pos ⟨h, e2⟩]
      · rw [if_neg (fun q => by omega), if_neg (fun q => e2 q.2)]
  · rw [if_neg (fun q => h q.1), if_neg (fun q => h q.1)]
theorem zrw_comm {σ : Nat → Nat → Int32} {f f' i i' k : Nat} {g : Nat → Int32} {x : Int32} (h : f ≠ f') : zup (zrw σ f i g) f' k x = zrw (zup σ f' k x) f i g := by
  funext a b
  show (if a = f' ∧ b = k then x else if a = f ∧ b < i then g b else σ a b) = if a = f ∧ b < i then g b else if a = f' ∧ b = k then x else σ a b
  by_cases c : a = f' ∧ b = k
  · rw [if_pos c, if_pos c, if_neg (fun q => h (q.1.symm.trans c.1))]
  · rw [if_neg c, if_neg c]
def zcl' (σ : Nat → Nat → Int32) (k : Nat) : Int32 := if σ 10 k ≠ 0 ∧ zin (σ 2 k + σ 3 k) (nI 0) (nI 9) ≠ 0 then σ 2 k + σ 3 k else σ 2 k
def zwy (σ : Nat → Nat → Int32) (k : Nat) : Int32 := if σ 10 k ≠ 0 ∧ zin (σ 2 k + σ 3 k) (nI 0) (nI 9) = 0 then -σ 3 k else σ 3 k
/-- the held below i have moved -/
def zmv (σ : Nat → Nat → Int32) (i : Nat) : Nat → Nat → Int32 := zrw (zrw σ 2 i (zcl' σ)) 3 i (zwy σ)
theorem zmv_n {σ : Nat → Nat → Int32} {i f : Nat} (h : f ≠ 2) (h' : f ≠ 3) : zmv σ i f = σ f := by unfold zmv; rw [zrw_n h', zrw_n h]
theorem zmv_2 {σ : Nat → Nat → Int32} {i : Nat} : zmv σ i 2 i = σ 2 i := by unfold zmv; rw [zrw_n (by decide), zrw_g (Nat.le_refl i)]
theorem zmv_3 {σ : Nat → Nat → Int32} {i : Nat} : zmv σ i 3 i = σ 3 i := by unfold zmv; rw [zrw_g (Nat.le_refl i), zrw_n (by decide)]
theorem zmv_skip {σ : Nat → Nat → Int32} {i : Nat} (h : σ 10 i = 0) : zmv σ (i + 1) = zmv σ i := by
  unfold zmv
  rw [zrw_skip (show zcl' σ i = σ 2 i from if_neg (fun q => q.1 h)), zrw_skip]
  rw [zrw_n (by decide)]
  exact if_neg (fun q => q.1 h)
theorem zmv_up {σ : Nat → Nat → Int32} {i : Nat} (h : σ 10 i ≠ 0) : zwk (zmv σ i) i = zmv σ (i + 1) := by
  unfold zwk
  rw [zmv_2, zmv_3]
  by_cases c : zin (σ 2 i + σ 3 i) (nI 0) (nI 9) = 0
  · rw [if_pos c]
    unfold zmv
    rw [zrw_skip (show zcl' σ i = σ 2 i from if_neg (fun q => q.2 c))]
    exact zrw_up (show -σ 3 i = zwy σ i from (if_pos ⟨h, c⟩).symm)
  · rw [if_neg c]
    unfold zmv
    rw [zrw_comm (i' := 0) (by decide), zrw_up (show σ 2 i + σ 3 i = zcl' σ i from (if_pos ⟨h, c⟩).symm)]
    refine (zrw_skip ?_).symm
    rw [zrw_n (by decide)]
    exact if_neg (fun q => c q.2)
/-- the hits below i have come -/
def zhr (σ : Nat → Nat → Int32) (n i : Nat) : Nat → Nat → Int32 := zrw σ 5 i (fun k => σ 5 k - zme σ k n)
theorem zme_hr {σ : Nat → Nat → Int32} {n i k : Nat} : ∀ j, zme (zhr σ n i) k j = zme σ k j
  | 0 => rfl
  | j + 1 => by
    have : zmc (zhr σ n i) k j = zmc σ k j := by unfold zmc zhr; rw [zrw_n (by decide), zrw_n (by decide), zrw_n (by decide)]
    simp only [zme, this, zme_hr j]

