/-! ===== numbers, lists of locals, counts ===== -/
theorem zx_nil {de mi y p : Nat} {Q : zRes → zM → Prop} {ls : List (Option Value)} {st : List Value} {μ : zM} : zx de mi y Q [] p ls st μ = zH de mi y p ls st μ Q := rfl
theorem zld_0 {v : Value} {l : List (Option Value)} : zld (some v :: l) 0 = some v := rfl
theorem zld_s {a : Option Value} {l : List (Option Value)} {n : Nat} : zld (a :: l) (n + 1) = zld l n := rfl
theorem zcst_0 {x : Nat} : zcst 0 x = nI x := rfl
theorem zcst_1 {x : Nat} : zcst 1 x = -nI x := rfl
theorem vrf_some {a : Nat} : va_rf (some a) = Value.ref a := rfl
theorem vrf_none : va_rf none = Value.null := rfl
theorem vrf_mid {c : Prop} [Decidable c] {a b : Option Nat} : va_rf (if c then a else b) = if c then va_rf a else va_rf b := by by_cases h : c <;> simp only [h, if_true, if_false]
/-- how many below n -/
def zcn (p : Nat → Bool) : Nat → Nat
  | 0 => 0
  | k + 1 => zcn p k + (if p k then 1 else 0)
theorem zcn_le (p : Nat → Bool) : ∀ n, zcn p n ≤ n
  | 0 => Nat.le_refl _
  | n + 1 => by have := zcn_le p n; simp only [zcn]; split <;> omega
theorem zcn_eq {p q : Nat → Bool} : ∀ {n}, (∀ k, k < n → p k = q k) → zcn p n = zcn q n
  | 0, _ => rfl
  | n + 1, h => by simp only [zcn]; rw [zcn_eq (fun k hk => h k (Nat.lt_succ_of_lt hk)), h n (Nat.lt_succ_self n)]
/-! ===== the model's memory ===== -/
def zfo (j : Nat) : Nat := if j ≤ 12 then j else if j = 13 then 15 else if j ≤ 18 then j + 4 else j + 5
def zsc (f : Nat) : Bool := f == 0 || f == 13 || f == 14 || f == 16 || f == 17 || f == 23 || f == 26 || f == 27
/-- the model at m as the rows of numbers σ -/
def zmI (μ : zM) (m : Nat) (σ : Nat → Nat → Int32) : zM := (zK μ, (fun a k => if m ≤ a ∧ a ≤ m + 20 then (if a = m then (if zsc k then σ k 0 else 0) else σ (zfo (a - m)) k) else zI μ a k), μ.2.2)
theorem zK_mI (μ : zM) (m : Nat) (σ : Nat → Nat → Int32) : zK (zmI μ m σ) = zK μ := rfl
theorem zR_mI (μ : zM) (m : Nat) (σ : Nat → Nat → Int32) : zR (zmI μ m σ) = zR μ := rfl
theorem zJ_mI (μ : zM) (m : Nat) (σ : Nat → Nat → Int32) : zJ (zmI μ m σ) = zJ μ := rfl
theorem zS_mI (μ : zM) (m : Nat) (σ : Nat → Nat → Int32) : zS (zmI μ m σ) = zS μ := rfl
theorem zC_mI (μ : zM) (m : Nat) (σ : Nat → Nat → Int32) : zC (zmI μ m σ) = zC μ := rfl
theorem zL_mI (μ : zM) (m : Nat) (σ : Nat → Nat → Int32) : zL (zmI μ m σ) = zL μ := rfl
theorem zI_mI (μ : zM) (m : Nat) (σ : Nat → Nat → Int32) (a k : Nat) : zI (zmI μ m σ) a k = if m ≤ a ∧ a ≤ m + 20 then (if a = m then (if zsc k then σ k 0 else 0) else σ (zfo (a - m)) k) else zI μ a k := rfl
theorem zI_mI_out {μ : zM} {m : Nat} {σ : Nat → Nat → Int32} {a : Nat} (h : ¬ (m ≤ a ∧ a ≤ m + 20)) : zI (zmI μ m σ) a = zI μ a := by funext k; rw [zI_mI, if_neg h]
theorem zm_arr {μ : zM} {m j : Nat} {σ : Nat → Nat → Int32} (k : Nat) (h1 : 1 ≤ j) (h2 : j ≤ 20) : zI (zmI μ m σ) (m + j) k = σ (zfo j) k := by
  rw [zI_mI, if_pos ⟨Nat.le_add_right _ _, by omega⟩, if_neg (by omega), Nat.add_sub_cancel_left]
theorem zm_sca {μ : zM} {m f : Nat} {σ : Nat → Nat → Int32} (h : zsc f = true) : zI (zmI μ m σ) m f = σ f 0 := by
  rw [zI_mI, if_pos ⟨Nat.le_refl _, Nat.le_add_right _ _⟩, if_pos rfl, if_pos h]
theorem zfo_sc : ∀ j, j ≤ 20 → 1 ≤ j → zsc (zfo j) = false := by decide +kernel
theorem zfo_inj : ∀ i, i ≤ 20 → ∀ j, j ≤ 20 → zfo i = zfo j → i = j := by decide +kernel
theorem zfo_inj' {i j : Nat} (hi : i ≤ 20) (hj : j ≤ 20) (h : zfo i = zfo j) : i = j := zfo_inj i hi j hj h
theorem zm_puts {μ : zM} {m f : Nat} {σ : Nat → Nat → Int32} {x : Int32} (h : zsc f = true) : zsI (zmI μ m σ) m f x = zmI μ m (zup σ f 0 x) := by
  refine Prod.ext rfl (Prod.ext ?_ rfl)
  funext a k
  show (if a = m ∧ k = f then x else zI (zmI μ m σ) a k) = zI (zmI μ m (zup σ f 0 x)) a k
  rw [zI_mI, zI_mI]
  by_cases h1 : m ≤ a ∧ a ≤ m + 20
  · rw [if_pos h1, if_pos h1]
    by_cases h2 : a = m
    · by_cases h3 : k = f
      · rw [if_pos ⟨h2, h3⟩, if_pos h2, h3, if_pos h]; exact (if_pos ⟨rfl, rfl⟩).symm
      · rw [if_neg (fun q => h3 q.2), if_pos h2, if_pos h2]
        by_cases h4 : zsc k = true
        · rw [if_pos h4, if_pos h4]; exact (if_neg (fun q => h3 q.1)).symm
        · rw [if_neg h4, if_neg h4]
    · rw [if_neg (fun q => h2 q.1), if_neg h2, if_neg h2]
      refine (if_neg (fun q => ?_)).symm
      have := zfo_sc (a - m) (by omega) (by omega)
      rw [q.1, h] at this
      cases this
  · rw [if_neg h1, if_neg h1, if_neg (fun q => h1 ⟨by omega, by omega⟩)]
theorem zm_puta {μ : zM} {m j k : Nat} {σ : Nat → Nat → Int32} {x : Int32} (h1 : 1 ≤ j) (h2 : j ≤ 20) : zsI (zmI μ m σ) (m + j) k x = zmI μ m (zup σ (zfo j) k x) := by
  refine Prod.ext rfl (Prod.ext ?_ rfl)
  funext a i
  show (if a = m + j ∧ i = k then x else zI (zmI μ m σ) a i) = zI (zmI μ m (zup σ (zfo j) k x)) a i
  rw [zI_mI, zI_mI]
  by_cases h3 : m ≤ a ∧ a ≤ m + 20
  · rw [if_pos h3, if_pos h3]
    by_cases h4 : a = m
    · rw [if_neg (fun q => by omega), if_pos h4, if_pos h4]
      by_cases h5 : zsc i = true
      · rw [if_pos h5, if_pos h5]
        refine (if_neg (fun q => ?_)).symm
        have := zfo_sc j h2 h1
        rw [← q.1, h5] at this
        cases this
      · rw [if_neg h5, if_neg h5]
    · rw [if_neg h4, if_neg h4]
      by_cases h5 : a = m + j
      · by_cases h6 : i = k
        · rw [if_pos ⟨h5, h6⟩]; exact (if_pos ⟨by rw [h5, Nat.add_sub_cancel_left], h6⟩).symm
        · rw [if_neg (fun q => h6 q.2)]; exact (if_neg (fun q => h6 q.2)).symm
      · rw [if_neg (fun q => h5 q.1)]
        refine (if_neg (fun q => ?_)).symm
        have := zfo_inj' (by omega) h2 q.1
        omega
  · rw [if_neg h3, if_neg h3, if_neg (fun q => h3 ⟨by omega, by omega⟩)]
def zln (j : Nat) : Nat := if j = 8 ∨ j = 9 then 120 else if j = 11 ∨ j = 12 then 12 else if j ≤ 13 then 40 else if j ≤ 18 then 20 else 30
def zkl (j : Nat) : Nat × Nat := (if j = 6 ∨ j = 10 ∨ j = 13 then 10 else 9, zln j)
/-- the model lies at m -/
def zMK (μ : zM) (m : Nat) : Prop := zK μ m = (8, 0) ∧ ∀ j, 1 ≤ j → j ≤ 20 → zR μ m (zfo j) = some (m + j) ∧ zK μ (m + j) = zkl j
theorem mk0 {μ : zM} {m : Nat} (h : zMK μ m) : zK μ m = (8, 0) := h.1
theorem mr1 {μ : zM} {m : Nat} (h : zMK μ m) : zR μ m 1 = some (m + 1) := (h.2 1 (by decide) (by decide)).1
theorem mk1 {μ : zM} {m : Nat} (h : zMK μ m) : zK μ (m + 1) = (9, 40) := (h.2 1 (by decide) (by decide)).2
theorem mg1 {μ : zM} {m k : Nat} {σ : Nat → Nat → Int32} : zI (zmI μ m σ) (m + 1) k = σ 1 k := zm_arr k (by decide) (by decide)
theorem mp1 {μ : zM} {m k : Nat} {σ : Nat → Nat → Int32} {x : Int32} : zsI (zmI μ m σ) (m + 1) k x = zmI μ m (zup σ 1 k x) := zm_puta (by decide) (by decide)
theorem mr2 {μ : zM} {m : Nat} (h : zMK μ m) : zR μ m 2 = some (m + 2) := (h.2 2 (by decide) (by decide)).1
theorem mk2 {μ : zM} {m : Nat} (h : zMK μ m) : zK μ (m + 2) = (9, 40) := (h.2 2 (by decide) (by decide)).2
theorem mg2 {μ : zM} {m k : Nat} {σ : Nat → Nat → Int32} : zI (zmI μ m σ) (m + 2) k = σ 2 k := zm_arr k (by decide) (by decide)
theorem mp2 {μ : zM} {m k : Nat} {σ : Nat → Nat → Int32} {x : Int32} : zsI (zmI μ m σ) (m + 2) k x = zmI μ m (zup σ 2 k x) := zm_puta (by decide) (by decide)
theorem mr3 {μ : zM} {m : Nat} (h : zMK μ m) : zR μ m 3 = some (m + 3) := (h.2 3 (by decide) (by decide)).1
theorem mk3 {μ : zM} {m : Nat} (h : zMK μ m) : zK μ (m + 3) = (9, 40) := (h.2 3 (by decide) (by decide)).2
theorem mg3 {μ : zM} {m k : Nat} {σ : Nat → Nat → Int32} : zI (zmI μ m σ) (m + 3) k = σ 3 k := zm_arr k (by decide) (by decide)
theorem mp3 {μ : zM} {m k : Nat} {σ : Nat → Nat → Int32} {x : Int32} : zsI (zmI μ m σ) (m + 3) k x = zmI μ m (zup σ 3 k x) := zm_puta (by decide) (by decide)
theorem mr4 {μ : zM} {m : Nat} (h : zMK μ m) : zR μ m 4 = some (m + 4) := (h.2 4 (by decide) (by decide)).1
theorem mk4 {μ : zM} {m : Nat} (h : zMK μ m) : zK μ (m + 4) = (9, 40) := (h.2 4 (by decide) (by decide)).2
theorem mg4 {μ : zM} {m k : Nat} {σ : Nat → Nat → Int32} : zI (zmI μ m σ) (m + 4) k = σ 4 k := zm_arr k (by decide) (by decide)
theorem mp4 {μ : zM} {m k : Nat} {σ : Nat → Nat → Int32} {x : Int32} : zsI (zmI μ m σ) (m + 4) k x = zmI μ m (zup σ 4 k x) := zm_puta (by decide) (by decide)
theorem mr5 {μ : zM} {m : Nat} (h : zMK μ m) : zR μ m 5 = some (m + 5) := (h.2 5 (by decide) (by decide)).1
theorem mk5 {μ : zM} {m : Nat} (h : zMK μ m) : zK μ (m + 5) = (9, 40) := (h.2 5 (by decide) (by decide)).2
theorem mg5 {μ : zM} {m k : Nat} {σ : Nat → Nat → Int32} : zI (zmI μ m σ) (m + 5) k = σ 5 k := zm_arr k (by decide) (by decide)
theorem mp5 {μ : zM} {m k : Nat} {σ : Nat → Nat → Int32} {x : Int32} : zsI (zmI μ m σ) (m + 5) k x = zmI μ m (zup σ 5 k x) := zm_puta (by decide) (by decide)
theorem mr6 {μ : zM} {m : Nat} (h : zMK μ m) : zR μ m 6 = some (m + 6) := (h.2 6 (by decide) (by decide)).1
theorem mk6 {μ : zM} {m : Nat} (h : zMK μ m) : zK μ (m + 6) = (10, 40) := (h.2 6 (by decide) (by decide)).2
theorem mg6 {μ : zM} {m k : Nat} {σ : Nat → Nat → Int32} : zI (zmI μ m σ) (m + 6) k = σ 6 k := zm_arr k (by decide) (by decide)
theorem mp6 {μ : zM} {m k : Nat} {σ : Nat → Nat → Int32} {x : Int32} : zsI (zmI μ m σ) (m + 6) k x = zmI μ m (zup σ 6 k x) := zm_puta (by decide) (by decide)
theorem mr7 {μ : zM} {m : Nat} (h : zMK μ m) : zR μ m 7 = some (m + 7) := (h.2 7 (by decide) (by decide)).1
theorem mk7 {μ : zM} {m : Nat} (h : zMK μ m) : zK μ (m + 7) = (9, 40) := (h.2 7 (by decide) (by decide)).2
theorem mg7 {μ : zM} {m k : Nat} {σ : Nat → Nat → Int32} : zI (zmI μ m σ) (m + 7) k = σ 7 k := zm_arr k (by decide) (by decide)
theorem mp7 {μ : zM} {m k : Nat} {σ : Nat → Nat → Int32} {x : Int32} : zsI (zmI μ m σ) (m + 7) k x = zmI μ m (zup σ 7 k x) := zm_puta (by decide) (by decide)
theorem mr8 {μ : zM} {m : Nat} (h : zMK μ m) : zR μ m 8 = some (m + 8) := (h.2 8 (by decide) (by decide)).1
theorem mk8 {μ : zM} {m : Nat} (h : zMK μ m) : zK μ (m + 8) = (9, 120) := (h.2 8 (by decide) (by decide)).2
theorem mg8 {μ : zM} {m k : Nat} {σ : Nat → Nat → Int32} : zI (zmI μ m σ) (m + 8) k = σ 8 k := zm_arr k (by decide) (by decide)
theorem mp8 {μ : zM} {m k : Nat} {σ : Nat → Nat → Int32} {x : Int32} : zsI (zmI μ m σ) (m + 8) k x = zmI μ m (zup σ 8 k x) := zm_puta (by decide) (by decide)
theorem mr9 {μ : zM} {m : Nat} (h : zMK μ m) : zR μ m 9 = some (m + 9) := (h.2 9 (by decide) (by decide)).1
theorem mk9 {μ : zM} {m : Nat} (h : zMK μ m) : zK μ (m + 9) = (9, 120) := (h.2 9 (by decide) (by decide)).2
theorem mg9 {μ : zM} {m k : Nat} {σ : Nat → Nat → Int32} : zI (zmI μ m σ) (m + 9) k = σ 9 k := zm_arr k (by decide) (by decide)
theorem mp9 {μ : zM} {m k : Nat} {σ : Nat → Nat → Int32} {x : Int32} : zsI (zmI μ m σ) (m + 9) k x = zmI μ m (zup σ 9 k x) := zm_puta (by decide) (by decide)
theorem mr10 {μ : zM} {m : Nat} (h : zMK μ m) : zR μ m 10 = some (m + 10) := (h.2 10 (by decide) (by decide)).1
theorem mk10 {μ : zM} {m : Nat} (h : zMK μ m) : zK μ (m + 10) = (10, 40) := (h.2 10 (by decide) (by decide)).2
theorem mg10 {μ : zM} {m k : Nat} {σ : Nat → Nat → Int32} : zI (zmI μ m σ) (m + 10) k = σ 10 k := zm_arr k (by decide) (by decide)
theorem mp10 {μ : zM} {m k : Nat} {σ : Nat → Nat → Int32} {x : Int32} : zsI (zmI μ m σ) (m + 10) k x = zmI μ m (zup σ 10 k x) := zm_puta (by decide) (by decide)
theorem mr11 {μ : zM} {m : Nat} (h : zMK μ m) : zR μ m 11 = some (m + 11) := (h.2 11 (by decide) (by decide)).1
theorem mk11 {μ : zM} {m : Nat} (h : zMK μ m) : zK μ (m + 11) = (9, 12) := (h.2 11 (by decide) (by decide)).2
theorem mg11 {μ : zM} {m k : Nat} {σ : Nat → Nat → Int32} : zI (zmI μ m σ) (m + 11) k = σ 11 k := zm_arr k (by decide) (by decide)
theorem mp11 {μ : zM} {m k : Nat} {σ : Nat → Nat → Int32} {x : Int32} : zsI (zmI μ m σ) (m + 11) k x = zmI μ m (zup σ 11 k x) := zm_puta (by decide) (by decide)
theorem mr12 {μ : zM} {m : Nat} (h : zMK μ m) : zR μ m 12 = some (m + 12) := (h.2 12 (by decide) (by decide)).1
theorem mk12 {μ : zM} {m : Nat} (h : zMK μ m) : zK μ (m + 12) = (9, 12) := (h.2 12 (by decide) (by decide)).2
theorem mg12 {μ : zM} {m k : Nat} {σ : Nat → Nat → Int32} : zI (zmI μ m σ) (m + 12) k = σ 12 k := zm_arr k (by decide) (by decide)
theorem mp12 {μ : zM} {m k : Nat} {σ : Nat → Nat → Int32} {x : Int32} : zsI (zmI μ m σ) (m + 12) k x = zmI μ m (zup σ 12 k x) := zm_puta (by decide) (by decide)
theorem mr13 {μ : zM} {m : Nat} (h : zMK μ m) : zR μ m 15 = some (m + 13) := (h.2 13 (by decide) (by decide)).1
theorem mk13 {μ : zM} {m : Nat} (h : zMK μ m) : zK μ (m + 13) = (10, 40) := (h.2 13 (by decide) (by decide)).2
theorem mg13 {μ : zM} {m k : Nat} {σ : Nat → Nat → Int32} : zI (zmI μ m σ) (m + 13) k = σ 15 k := zm_arr k (by decide) (by decide)
theorem mp13 {μ : zM} {m k : Nat} {σ : Nat → Nat → Int32} {x : Int32} : zsI (zmI μ m σ) (m + 13) k x = zmI μ m (zup σ 15 k x) := zm_puta (by decide) (by decide)
theorem mr14 {μ : zM} {m : Nat} (h : zMK μ m) : zR μ m 18 = some (m + 14) := (h.2 14 (by decide) (by decide)).1
theorem mk14 {μ : zM} {m : Nat} (h : zMK μ m) : zK μ (m + 14) = (9, 20) := (h.2 14 (by decide) (by decide)).2
theorem mg14 {μ : zM} {m k : Nat} {σ : Nat → Nat → Int32} : zI (zmI μ m σ) (m + 14) k = σ 18 k := zm_arr k (by decide) (by decide)
theorem mp14 {μ : zM} {m k : Nat} {σ : Nat → Nat → Int32} {x : Int32} : zsI (zmI μ m σ) (m + 14) k x = zmI μ m (zup σ 18 k x) := zm_puta (by decide) (by decide)
theorem mr15 {μ : zM} {m : Nat} (h : zMK μ m) : zR μ m 19 = some (m + 15) := (h.2 15 (by decide) (by decide)).1
theorem mk15 {μ : zM} {m : Nat} (h : zMK μ m) : zK μ (m + 15) = (9, 20) := (h.2 15 (by decide) (by decide)).2
theorem mg15 {μ : zM} {m k : Nat} {σ : Nat → Nat → Int32} : zI (zmI μ m σ) (m + 15) k = σ 19 k := zm_arr k (by decide) (by decide)
theorem mp15 {μ : zM} {m k : Nat} {σ : Nat → Nat → Int32} {x : Int32} : zsI (zmI μ m σ) (m + 15) k x = zmI μ m (zup σ 19 k x) := zm_puta (by decide) (by decide)
theorem mr16 {μ : zM} {m : Nat} (h : zMK μ m) : zR μ m 20 = some (m + 16) := (h.2 16 (by decide) (by decide)).1
theorem mk16 {μ : zM} {m : Nat} (h : zMK μ m) : zK μ (m + 16) = (9, 20) := (h.2 16 (by decide) (by decide)).2
theorem mg16 {μ : zM} {m k : Nat} {σ : Nat → Nat → Int32} : zI (zmI μ m σ) (m + 16) k = σ 20 k := zm_arr k (by decide) (by decide)
theorem mp16 {μ : zM} {m k : Nat} {σ : Nat → Nat → Int32} {x : Int32} : zsI (zmI μ m σ) (m + 16) k x = zmI μ m (zup σ 20 k x) := zm_puta (by decide) (by decide)
theorem mr17 {μ : zM} {m : Nat} (h : zMK μ m) : zR μ m 21 = some (m + 17) := (h.2 17 (by decide) (by decide)).1
theorem mk17 {μ : zM} {m : Nat} (h : zMK μ m) : zK μ (m + 17) = (9, 20) := (h.2 17 (by decide) (by decide)).2
theorem mg17 {μ : zM} {m k : Nat} {σ : Nat → Nat → Int32} : zI (zmI μ m σ) (m + 17) k = σ 21 k := zm_arr k (by decide) (by decide)
theorem mp17 {μ : zM} {m k : Nat} {σ : Nat → Nat → Int32} {x : Int32} : zsI (zmI μ m σ) (m + 17) k x = zmI μ m (zup σ 21 k x) := zm_puta (by decide) (by decide)
theorem mr18 {μ : zM} {m : Nat} (h : zMK μ m) : zR μ m 22 = some (m + 18) := (h.2 18 (by decide) (by decide)).1
theorem mk18 {μ : zM} {m : Nat} (h : zMK μ m) : zK μ (m + 18) = (9, 20) := (h.2 18 (by decide) (by decide)).2
theorem mg18 {μ : zM} {m k : Nat} {σ : Nat → Nat → Int32} : zI (zmI μ m σ) (m + 18) k = σ 22 k := zm_arr k (by decide) (by decide)
theorem mp18 {μ : zM} {m k : Nat} {σ : Nat → Nat → Int32} {x : Int32} : zsI (zmI μ m σ) (m + 18) k x = zmI μ m (zup σ 22 k x) := zm_puta (by decide) (by decide)
theorem mr19 {μ : zM} {m : Nat} (h : zMK μ m) : zR μ m 24 = some (m + 19) := (h.2 19 (by decide) (by decide)).1
theorem mk19 {μ : zM} {m : Nat} (h : zMK μ m) : zK μ (m + 19) = (9, 30) := (h.2 19 (by decide) (by decide)).2
theorem mg19 {μ : zM} {m k : Nat} {σ : Nat → Nat → Int32} : zI (zmI μ m σ) (m + 19) k = σ 24 k := zm_arr k (by decide) (by decide)
theorem mp19 {μ : zM} {m k : Nat} {σ : Nat → Nat → Int32} {x : Int32} : zsI (zmI μ m σ) (m + 19) k x = zmI μ m (zup σ 24 k x) := zm_puta (by decide) (by decide)
theorem mr20 {μ : zM} {m : Nat} (h : zMK μ m) : zR μ m 25 = some (m + 20) := (h.2 20 (by decide) (by decide)).1
theorem mk20 {μ : zM} {m : Nat} (h : zMK μ m) : zK μ (m + 20) = (9, 30) := (h.2 20 (by decide) (by decide)).2
theorem mg20 {μ : zM} {m k : Nat} {σ : Nat → Nat → Int32} : zI (zmI μ m σ) (m + 20) k = σ 25 k := zm_arr k (by decide) (by decide)
theorem mp20 {μ : zM} {m k : Nat} {σ : Nat → Nat → Int32} {x : Int32} : zsI (zmI μ m σ) (m + 20) k x = zmI μ m (zup σ 25 k x) := zm_puta (by decide) (by decide)
theorem ms0 {μ : zM} {m : Nat} {σ : Nat → Nat → Int32} : zI (zmI μ m σ) m 0 = σ 0 0 := zm_sca rfl
theorem mt0 {μ : zM} {m : Nat} {σ : Nat → Nat → Int32} {x : Int32} : zsI (zmI μ m σ) m 0 x = zmI μ m (zup σ 0 0 x) := zm_puts rfl
theorem ms13 {μ : zM} {m : Nat} {σ : Nat → Nat → Int32} : zI (zmI μ m σ) m 13 = σ 13 0 := zm_sca rfl
theorem mt13 {μ : zM} {m : Nat} {σ : Nat → Nat → Int32} {x : Int32} : zsI (zmI μ m σ) m 13 x = zmI μ m (zup σ 13 0 x) := zm_puts rfl
theorem ms14 {μ : zM} {m : Nat} {σ : Nat → Nat → Int32} : zI (zmI μ m σ) m 14 = σ 14 0 := zm_sca rfl
theorem mt14 {μ : zM} {m : Nat} {σ : Nat → Nat → Int32} {x : Int32} : zsI (zmI μ m σ) m 14 x = zmI μ m (zup σ 14 0 x) := zm_puts rfl
theorem ms16 {μ : zM} {m : Nat} {σ : Nat → Nat → Int32} : zI (zmI μ m σ) m 16 = σ 16 0 := zm_sca rfl
theorem mt16 {μ : zM} {m : Nat} {σ : Nat → Nat → Int32} {x : Int32} : zsI (zmI μ m σ) m 16 x = zmI μ m (zup σ 16 0 x) := zm_puts rfl
theorem ms17 {μ : zM} {m : Nat} {σ : Nat → Nat → Int32} : zI (zmI μ m σ) m 17 = σ 17 0 := zm_sca rfl
theorem mt17 {μ : zM} {m : Nat} {σ : Nat → Nat → Int32} {x : Int32} : zsI (zmI μ m σ) m 17 x = zmI μ m (zup σ 17 0 x) := zm_puts rfl
theorem ms23 {μ : zM} {m : Nat} {σ : Nat → Nat → Int32} : zI (zmI μ m σ) m 23 = σ 23 0 := zm_sca rfl
theorem mt23 {μ : zM} {m : Nat} {σ : Nat → Nat → Int32} {x : Int32} : zsI (zmI μ m σ) m 23 x = zmI μ m (zup σ 23 0 x) := zm_puts rfl
theorem ms26 {μ : zM} {m : Nat} {σ : Nat → Nat → Int32} : zI (zmI μ m σ) m 26 = σ 26 0 := zm_sca rfl
theorem mt26 {μ : zM} {m : Nat} {σ : Nat → Nat → Int32} {x : Int32} : zsI (zmI μ m σ) m 26 x = zmI μ m (zup σ 26 0 x) := zm_puts rfl
theorem ms27 {μ : zM} {m : Nat} {σ : Nat → Nat → Int32} : zI (zmI μ m σ) m 27 = σ 27 0 := zm_sca rfl
theorem mt27 {μ : zM} {m : Nat} {σ : Nat → Nat → Int32} {x : Int32} : zsI (zmI μ m σ) m 27 x = zmI μ m (zup σ 27 0 x) := zm_puts rfl
