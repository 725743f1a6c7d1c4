/-! ===== the rows as lists, for the kernel to count with ===== -/
abbrev zT : Type := List (List Int32)
noncomputable def za : List Int32 → Nat → Int32 := fun l => @List.rec Int32 (fun _ => Nat → Int32) (fun _ => 0) (fun a _ ih k => @Nat.rec (fun _ => Int32) a (fun j _ => ih j) k) l
noncomputable def zro9 : zT → Nat → List Int32 := fun T => @List.rec (List Int32) (fun _ => Nat → List Int32) (fun _ => []) (fun a _ ih k => @Nat.rec (fun _ => List Int32) a (fun j _ => ih j) k) T
noncomputable def zset : List Int32 → Nat → Int32 → List Int32 := fun l => @List.rec Int32 (fun _ => Nat → Int32 → List Int32) (fun _ _ => []) (fun a t ih k x => @Nat.rec (fun _ => List Int32) (x :: t) (fun j _ => a :: ih j x) k) l
noncomputable def zmod : zT → Nat → (List Int32 → List Int32) → zT := fun T => @List.rec (List Int32) (fun _ => Nat → (List Int32 → List Int32) → zT) (fun _ _ => []) (fun r t ih f g => @Nat.rec (fun _ => zT) (g r :: t) (fun j _ => r :: ih j g) f) T
noncomputable def zmp : List Int32 → Nat → Nat → (Nat → Int32) → List Int32 := fun l => @List.rec Int32 (fun _ => Nat → Nat → (Nat → Int32) → List Int32) (fun _ _ _ => []) (fun a _ ih j i g => (if j < i then g j else a) :: ih (j + 1) i g) l
noncomputable def zD (T : zT) : Nat → Nat → Int32 := fun f k => za (zro9 T f) k
noncomputable def zut (T : zT) (f k : Nat) (x : Int32) : zT := zmod T f (fun r => zset r k x)
noncomputable def zrwT (T : zT) (f i : Nat) (g : Nat → Int32) : zT := zmod T f (fun r => zmp r 0 i g)
theorem za_set : ∀ (l : List Int32) (k : Nat) (x : Int32) (j : Nat), k < l.length → za (zset l k x) j = if j = k then x else za l j
  | [], k, x, j, hk => absurd hk (Nat.not_lt_zero k)
  | a :: t, 0, x, 0, hk => rfl
  | a :: t, 0, x, j + 1, hk => by rw [if_neg (by omega)]; rfl
  | a :: t, k + 1, x, 0, hk => by rw [if_neg (by omega)]; rfl
  | a :: t, k + 1, x, j + 1, hk => by
    have ih := za_set t k x j (by simpa using hk)
    show za (zset t k x) j = if j + 1 = k + 1 then x else za t j
    rw [ih]
    by_cases e : j = k
    · rw [if_pos e, if_pos (by omega)]
    · rw [if_neg e, if_neg (by omega)]
theorem zset_len : ∀ (l : List Int32) (k : Nat) (x : Int32), (zset l k x).length = l.length
  | [], k, x => rfl
  | a :: t, 0, x => rfl
  | a :: t, k + 1, x => by
    show (a :: zset t k x).length = (a :: t).length
    rw [List.length_cons, List.length_cons, zset_len t k x]
theorem zmod_row : ∀ (T : zT) (f : Nat) (g : List Int32 → List Int32) (f' : Nat), f < T.length → zro9 (zmod T f g) f' = if f' = f then g (zro9 T f) else zro9 T f'
  | [], f, g, f', hf => absurd hf (Nat.not_lt_zero f)
  | a :: t, 0, g, 0, hf => rfl
  | a :: t, 0, g, j + 1, hf => by rw [if_neg (by omega)]; rfl
  | a :: t, f + 1, g, 0, hf => by rw [if_neg (by omega)]; rfl
  | a :: t, f + 1, g, j + 1, hf => by
    have ih := zmod_row t f g j (by simpa using hf)
    show zro9 (zmod t f g) j = if j + 1 = f + 1 then g (zro9 t f) else zro9 t j
    rw [ih]
    by_cases e : j = f
    · rw [if_pos e, if_pos (by omega)]
    · rw [if_neg e, if_neg (by omega)]
theorem zmod_len : ∀ (T : zT) (f : Nat) (g : List Int32 → List Int32), (zmod T f g).length = T.length
  | [], f, g => rfl
  | a :: t, 0, g => rfl
  | a :: t, f + 1, g => by
    show (a :: zmod t f g).length = (a :: t).length
    rw [List.length_cons, List.length_cons, zmod_len t f g]
theorem zmp_at : ∀ (l : List Int32) (j i : Nat) (g : Nat → Int32) (k : Nat), za (zmp l j i g) k = if k < l.length ∧ j + k < i then g (j + k) else za l k
  | [], j, i, g, k => by rw [if_neg (fun q => absurd q.1 (Nat.not_lt_zero k))]; rfl
  | a :: t, j, i, g, 0 => by
    show (if j < i then g j else a) = if 0 < (a :: t).length ∧ j + 0 < i then g (j + 0) else a
    by_cases h : j < i
    · rw [if_pos h, if_pos ⟨by simp, h⟩]; rfl
    · rw [if_neg h, if_neg (fun q => h q.2)]
  | a :: t, j, i, g, k + 1 => by
    have ih := zmp_at t (j + 1) i g k
    show za (zmp t (j + 1) i g) k = if k + 1 < (a :: t).length ∧ j + (k + 1) < i then g (j + (k + 1)) else za t k
    rw [ih, show j + 1 + k = j + (k + 1) by omega]
    by_cases h : k < t.length ∧ j + (k + 1) < i
    · rw [if_pos h, if_pos ⟨by simpa using h.1, h.2⟩]
    · rw [if_neg h, if_neg (fun q => h ⟨by simpa using q.1, q.2⟩)]
theorem zmp_len : ∀ (l : List Int32) (j i : Nat) (g : Nat → Int32), (zmp l j i g).length = l.length
  | [], j, i, g => rfl
  | a :: t, j, i, g => by
    show ((if j < i then g j else a) :: zmp t (j + 1) i g).length = (a :: t).length
    rw [List.length_cons, List.length_cons, zmp_len t (j + 1) i g]
theorem zrow_out : ∀ (T : zT) (f : Nat), T.length ≤ f → zro9 T f = []
  | [], f, h => rfl
  | a :: t, 0, h => absurd h (by simp)
  | a :: t, f + 1, h => zrow_out t f (by simpa using h)
/-- how long each row is -/
def zwis : List Nat := [1, 40, 40, 40, 40, 40, 40, 40, 120, 120, 40, 12, 12, 1, 1, 40, 1, 1, 20, 20, 20, 20, 20, 1, 30, 30, 1, 1]
def zwi (f : Nat) : Nat := zwis.getD f 0
theorem zwi_28 {f k : Nat} (h : k < zwi f) : f < 28 := by
  rcases Nat.lt_or_ge f 28 with q | q
  · exact q
  · have : zwi f = 0 := by
      unfold zwi
      rw [List.getD_eq_getElem?_getD, List.getElem?_eq_none (show zwis.length ≤ f from q)]
      rfl
    omega
def zSh (T : zT) : Prop := T.length = 28 ∧ ∀ f, (zro9 T f).length = zwi f
/-- the lists hold the rows -/
def zOk (T : zT) (σ : Nat → Nat → Int32) : Prop := zSh T ∧ zD T = σ
theorem zOk.ut {T : zT} {σ : Nat → Nat → Int32} {f k : Nat} {x : Int32} (h : zOk T σ) (hk : k < zwi f) : zOk (zut T f k x) (zup σ f k x) := by
  obtain ⟨⟨h1, h2⟩, rfl⟩ := h
  have hf := zwi_28 hk
  have hr := zmod_row T f (fun r => zset r k x)
  refine ⟨⟨(zmod_len T f _).trans h1, fun f' => ?_⟩, ?_⟩
  · unfold zut
    rw [hr f' (by omega)]
    by_cases e : f' = f
    · rw [if_pos e, zset_len, e]; exact h2 f
    · rw [if_neg e]; exact h2 f'
  · funext f' j
    show za (zro9 (zut T f k x) f') j = if f' = f ∧ j = k then x else za (zro9 T f') j
    unfold zut
    rw [hr f' (by omega)]
    by_cases e : f' = f
    · rw [if_pos e]
      rw [za_set _ _ _ _ (by rw [h2]; exact hk)]
      by_cases e2 : j = k
      · rw [if_pos e2, if_pos ⟨e, e2⟩]
      · rw [if_neg e2, if_neg (fun q => e2 q.2), e]
    · rw [if_neg e, if_neg (fun q => e q.1)]
theorem zOk.rw {T : zT} {σ : Nat → Nat → Int32} {f i : Nat} {g : Nat → Int32} (h : zOk T σ) (hk : i ≤ zwi f) (hf : f < 28) : zOk (zrwT T f i g) (zrw σ f i g) := by
  obtain ⟨⟨h1, h2⟩, rfl⟩ := h
  have hr := zmod_row T f (fun r => zmp r 0 i g)
  refine ⟨⟨(zmod_len T f _).trans h1, fun f' => ?_⟩, ?_⟩
  · unfold zrwT
    rw [hr f' (by omega)]
    by_cases e : f' = f
    · rw [if_pos e, zmp_len, e]; exact h2 f
    · rw [if_neg e]; exact h2 f'
  · funext f' j
    show za (zro9 (zrwT T f i g) f') j = if f' = f ∧ j < i then g j else za (zro9 T f') j
    unfold zrwT
    rw [hr f' (by omega)]
    by_cases e : f' = f
    · rw [if_pos e]
      rw [zmp_at, Nat.zero_add, h2]
      by_cases e2 : j < i
      · rw [if_pos ⟨by omega, e2⟩, if_pos ⟨e, e2⟩]
      · rw [if_neg (fun q => e2 q.2), if_neg (fun q => e2 q.2), e]
    · rw [if_neg e, if_neg (fun q => e q.1)]
/-- the lists of a new hall -/
def zq0 (n : Nat) : List Int32 := List.replicate n 0
def zT0 : zT := [zq0 1, zq0 40, zq0 40, zq0 40, zq0 40, zq0 40, zq0 40, zq0 40, zq0 120, zq0 120, zq0 40, zq0 12, zq0 12, [-nI 1], zq0 1, zq0 40, zq0 1, zq0 1, zq0 20, zq0 20, zq0 20, zq0 20, zq0 20, zq0 1, zq0 30, zq0 30, zq0 1, zq0 1]
theorem za_rep : ∀ (n k : Nat), za (zq0 n) k = 0
  | 0, k => rfl
  | n + 1, 0 => rfl
  | n + 1, k + 1 => za_rep n k
theorem zT0_rows : ∀ f, f < 28 → f ≠ 13 → zro9 zT0 f = zq0 (zwi f) := by
  intro f hf h
  rcases f with _ | _ | _ | _ | _ | _ | _ | _ | _ | _ | _ | _ | _ | _ | _ | _ | _ | _ | _ | _ | _ | _ | _ | _ | _ | _ | _ | _ | f
  all_goals first | rfl | exact absurd rfl h | omega
theorem zT0_ok : zOk zT0 zs0 := by
  have out : ∀ f, 28 ≤ f → zro9 zT0 f = [] := fun f hf => zrow_out zT0 f hf
  refine ⟨⟨rfl, fun f => ?_⟩, ?_⟩
  · by_cases hf : f < 28
    · by_cases h : f = 13
      · subst h; rfl
      · rw [zT0_rows f hf h]; exact List.length_replicate
    · rw [out f (by omega)]
      have : ¬ 0 < zwi f := fun q => hf (zwi_28 q)
      show 0 = zwi f
      omega
  · funext f k
    show za (zro9 zT0 f) k = zs0 f k
    by_cases h : f = 13
    · subst h
      cases k with
      | zero => rfl
      | succ k => exact (if_neg (fun q => absurd q.2 (by omega))).symm
    · rw [zs0_0 h]
      by_cases hf : f < 28
      · rw [zT0_rows f hf h]; exact za_rep _ k
      · rw [out f (by omega)]; rfl
/-! who is held, by passes -/
noncomputable def zpS (T : zT) (j : Nat) : zT := if zD T 10 (j / 3) ≠ 0 ∧ (nI (j % 3) < zD T 7 (j / 3) ∧ zD T 9 j < nI 2) ∧ 0 < zD T 5 (ztg (zD T) j) ∧ zD T 10 (ztg (zD T) j) = 0 then zut T 10 (ztg (zD T) j) 1 else T
noncomputable def zpq : Nat → zT → zT
  | 0, T => T
  | j + 1, T => zpS (zpq j T) j
noncomputable def zpc (T : zT) : Nat → Bool
  | 0 => true
  | j + 1 => zpc T j && decide (¬ (zD T 10 (j / 3) ≠ 0 ∧ (nI (j % 3) < zD T 7 (j / 3) ∧ zD T 9 j < nI 2) ∧ 0 < zD T 5 (ztg (zD T) j) ∧ zD T 10 (ztg (zD T) j) = 0))
noncomputable def zhF (n : Nat) : Nat → zT → Option zT
  | 0, _ => none
  | u + 1, T => if zpc T (3 * n) = true then some T else zhF n u (zpq (3 * n) T)
noncomputable def zhT (T : zT) (n : Nat) : Option zT := zhF n 6 (zrwT T 10 n (zrt6 (zD T)))
def zPv (σ : Nat → Nat → Int32) (n : Nat) (T : zT) : Prop := zSh T ∧ (∀ f, f ≠ 10 → zD T f = σ f) ∧ zHi σ n (zD T 10)
theorem zPv.step {σ : Nat → Nat → Int32} {n j : Nat} {T : zT} (p : zPv σ n T) (hN : n ≤ 40) (w7 : zW7 σ n) (hj : j < 3 * n) : zPv σ n (zpS T j) := by
  obtain ⟨sh, e, hi⟩ := p
  unfold zpS
  by_cases c : zD T 10 (j / 3) ≠ 0 ∧ (nI (j % 3) < zD T 7 (j / 3) ∧ zD T 9 j < nI 2) ∧ 0 < zD T 5 (ztg (zD T) j) ∧ zD T 10 (ztg (zD T) j) = 0
  · rw [if_pos c]
    obtain ⟨c1, c2, c3, c4⟩ := c
    rw [e 7 (by decide), e 9 (by decide)] at c2
    have et : ztg (zD T) j = ztg σ j := by unfold ztg; rw [e 8 (by decide)]
    rw [et] at c3 c4 ⊢
    rw [e 5 (by decide)] at c3
    obtain ⟨t, ht, e8⟩ := w7.2 j hj c2.1
    have etg : ztg σ j = t := by unfold ztg; rw [e8, nI_clamp (by omega)]
    have hre : zRe σ n (ztg σ j) := (zRe_cl σ n).2 j hj c2 ((hi.1 (j / 3) (by omega)).2.1 c1) c3
    rw [etg] at hre ⊢
    obtain ⟨s1, s2⟩ := zOk.ut (T := T) (σ := zD T) (f := 10) (k := t) (x := 1) ⟨sh, rfl⟩ (show t < 40 by omega)
    refine ⟨s1, fun f hf => ?_, ?_⟩
    · rw [s2, zup_f hf]; exact e f hf
    · have : zD (zut T 10 t 1) 10 = fun i => if i = t then 1 else zD T 10 i := by
        rw [s2]
        funext i
        show (if 10 = 10 ∧ i = t then (1 : Int32) else zD T 10 i) = _
        by_cases q : i = t
        · rw [if_pos ⟨rfl, q⟩, if_pos q]
        · rw [if_neg (fun z => q z.2), if_neg q]
      rw [this]
      exact zHi_put hi ht hre
  · rw [if_neg c]; exact ⟨sh, e, hi⟩
theorem zPv.pass {σ : Nat → Nat → Int32} {n : Nat} {T : zT} (p : zPv σ n T) (hN : n ≤ 40) (w7 : zW7 σ n) : ∀ j, j ≤ 3 * n → zPv σ n (zpq j T)
  | 0, _ => p
  | j + 1, hj => (zPv.pass p hN w7 j (by omega)).step hN w7 (by omega)
theorem zpc_ok {T : zT} : ∀ {m : Nat}, zpc T m = true → ∀ j, j < m → ¬ (zD T 10 (j / 3) ≠ 0 ∧ (nI (j % 3) < zD T 7 (j / 3) ∧ zD T 9 j < nI 2) ∧ 0 < zD T 5 (ztg (zD T) j) ∧ zD T 10 (ztg (zD T) j) = 0)
  | 0, _, j, hj => absurd hj (Nat.not_lt_zero j)
  | m + 1, h, j, hj => by
    unfold zpc at h
    rw [Bool.and_eq_true] at h
    by_cases e : j = m
    · rw [e]; exact of_decide_eq_true h.2
    · exact zpc_ok h.1 j (by omega)
theorem zPv.done {σ : Nat → Nat → Int32} {n : Nat} {T : zT} (p : zPv σ n T) (hN : n ≤ 40) (w7 : zW7 σ n) (c : zpc T (3 * n) = true) : zOk T (zho σ n) := by
  obtain ⟨sh, e, hi⟩ := p
  have g := zHi_done hi w7 (fun j hj h1 h2 h3 => Classical.byContradiction fun q => by
    refine zpc_ok c j hj ?_
    have et : ztg (zD T) j = ztg σ j := by unfold ztg; rw [e 8 (by decide)]
    rw [et, e 7 (by decide), e 9 (by decide), e 5 (by decide)]
    exact ⟨h2, h1, h3, Classical.not_not.mp q⟩) hN
  refine ⟨sh, ?_⟩
  funext f
  by_cases hf : f = 10
  · subst hf
    rw [g]
    unfold zho
    rw [zg10]
  · rw [e f hf, zho_n hf]
theorem zhF_ok {σ : Nat → Nat → Int32} {n : Nat} (hN : n ≤ 40) (w7 : zW7 σ n) : ∀ (u : Nat) (T T' : zT), zPv σ n T → zhF n u T = some T' → zOk T' (zho σ n)
  | 0, T, T', p, e => by cases e
  | u + 1, T, T', p, e => by
    unfold zhF at e
    by_cases c : zpc T (3 * n) = true
    · rw [if_pos c] at e
      cases e
      exact p.done hN w7 c
    · rw [if_neg c] at e
      exact zhF_ok hN w7 u _ T' (p.pass hN w7 _ (Nat.le_refl _)) e
theorem zhT_ok {σ : Nat → Nat → Int32} {n : Nat} {T T' : zT} (h : zOk T σ) (hN : n ≤ 40) (w7 : zW7 σ n) (e : zhT T n = some T') : zOk T' (zho σ n) := by
  have hD := h.2
  unfold zhT at e
  rw [hD] at e
  obtain ⟨s1, s2⟩ := h.rw (f := 10) (i := n) (g := zrt6 σ) (show n ≤ 40 from hN) (by decide)
  refine zhF_ok hN w7 6 _ T' ⟨s1, fun f hf => by rw [s2, zrw_n hf], ?_⟩ e
  rw [s2]
  refine ⟨fun k hk => ?_, fun k hk => zrw_g hk⟩
  rw [zrw_l hk]
  by_cases c : σ 6 k ≠ 0 ∧ 0 < σ 5 k
  · have e6 : zrt6 σ k = 1 := if_pos c
    rw [e6]
    exact ⟨Or.inr rfl, fun _ => (zRe_cl σ n).1 k hk c.1 c.2, fun _ _ => by decide⟩
  · have e6 : zrt6 σ k = 0 := if_neg c
    rw [e6]
    exact ⟨Or.inl rfl, fun q => absurd rfl q, fun a b => absurd ⟨a, b⟩ c⟩
