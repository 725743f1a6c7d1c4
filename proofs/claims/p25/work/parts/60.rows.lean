/-! ===== rows that stay right ===== -/
section ROWS
variable {n : Nat} {σ σ' : Nat → Nat → Int32}
theorem zW7.mk' (h1 : ∀ k, k < n → ∃ l, l ≤ 3 ∧ σ 7 k = nI l) (h2 : ∀ k j l, k < n → l ≤ 3 → σ 7 k = nI l → j < l → ∃ t, t < n ∧ σ 8 (3 * k + j) = nI t) : zW7 σ n := by
  refine ⟨h1, fun j hj hlt => ?_⟩
  obtain ⟨l, hl, e⟩ := h1 (j / 3) (by omega)
  rw [e] at hlt
  have := (nI_ltI (by omega) (by omega)).mp hlt
  have q := h2 (j / 3) (j % 3) l (by omega) hl e this
  rwa [show 3 * (j / 3) + j % 3 = j by omega] at q
theorem zW7.at (w : zW7 σ n) {k j l : Nat} (hk : k < n) (e : σ 7 k = nI l) (hl : l ≤ 3) (hj : j < l) : ∃ t, t < n ∧ σ 8 (3 * k + j) = nI t := w.2 (3 * k + j) (by omega) (by rw [show (3 * k + j) % 3 = j by omega, show (3 * k + j) / 3 = k by omega, e]; exact nI_lt hj (by omega))
theorem zW9.mk' (w7 : ∀ k, k < n → ∃ l, l ≤ 3 ∧ σ 7 k = nI l) (h2 : ∀ k j l, k < n → l ≤ 3 → σ 7 k = nI l → j < l → σ 9 (3 * k + j) = nI 0 ∨ σ 9 (3 * k + j) = nI 1 ∨ σ 9 (3 * k + j) = nI 2) : zW9 σ n := by
  intro j hj hlt
  obtain ⟨l, hl, e⟩ := w7 (j / 3) (by omega)
  rw [e] at hlt
  have := (nI_ltI (by omega) (by omega)).mp hlt
  have q := h2 (j / 3) (j % 3) l (by omega) hl e this
  rwa [show 3 * (j / 3) + j % 3 = j by omega] at q
theorem zW9.at (w : zW9 σ n) {k j l : Nat} (hk : k < n) (e : σ 7 k = nI l) (hl : l ≤ 3) (hj : j < l) : σ 9 (3 * k + j) = nI 0 ∨ σ 9 (3 * k + j) = nI 1 ∨ σ 9 (3 * k + j) = nI 2 := w (3 * k + j) (by omega) (by rw [show (3 * k + j) % 3 = j by omega, show (3 * k + j) / 3 = k by omega, e]; exact nI_lt hj (by omega))
theorem zW7.row (w : zW7 σ n) (e7 : σ' 7 = σ 7) (e8 : σ' 8 = σ 8) : zW7 σ' n := ⟨fun k hk => by rw [e7]; exact w.1 k hk, fun j hj => by rw [e7, e8]; exact w.2 j hj⟩
theorem zW9.row (w : zW9 σ n) (e7 : σ' 7 = σ 7) (e9 : σ' 9 = σ 9) : zW9 σ' n := fun j hj => by rw [e7, e9]; exact w j hj
theorem zbz0 {l : Nat} (hl : l ≤ 3) (e : (0 : Int32) = nI l) : l = 0 := ((nI_eq (a := 0) (b := l) (by decide) (by omega)).mp e).symm
/-- one actor more without links -/
theorem zW7.succ (w : zW7 σ n) (b : σ 7 n = 0) : zW7 σ (n + 1) := by
  refine zW7.mk' (fun k hk => ?_) (fun k j l hk hl e hj => ?_)
  · by_cases q : k = n
    · rw [q]; exact ⟨0, by omega, b⟩
    · exact w.1 k (by omega)
  · by_cases q : k = n
    · rw [q, b] at e
      have := zbz0 hl e
      omega
    · obtain ⟨t, ht, et⟩ := w.at (k := k) (by omega) e hl hj
      exact ⟨t, by omega, et⟩
theorem zW9.succ (w7 : zW7 σ n) (w : zW9 σ n) (b : σ 7 n = 0) : zW9 σ (n + 1) := by
  refine zW9.mk' (zW7.succ w7 b).1 (fun k j l hk hl e hj => ?_)
  by_cases q : k = n
  · rw [q, b] at e
    have := zbz0 hl e
    omega
  · exact w.at (k := k) (by omega) e hl hj
theorem zcm_W7 {s : Nat} {c w sd l r : Int32} (w7 : zW7 σ n) (b : σ 7 n = 0) : zW7 (zcm (zcs σ) n s c w sd l r) (n + 1) := (zW7.succ w7 b).row (by rw [zcm_7 (by omega), zcs_n (by decide) (by decide)]) (by rw [zcm_7 (by omega), zcs_n (by decide) (by decide)])
theorem zcm_W9 {s : Nat} {c w sd l r : Int32} (w7 : zW7 σ n) (w9 : zW9 σ n) (b : σ 7 n = 0) : zW9 (zcm (zcs σ) n s c w sd l r) (n + 1) := (zW9.succ w7 w9 b).row (by rw [zcm_7 (by omega), zcs_n (by decide) (by decide)]) (by rw [zcm_7 (by omega), zcs_n (by decide) (by decide)])
theorem zcm_W11 {s : Nat} {c w sd l r : Int32} (w11 : zW11 σ n) : zW11 (zcm (zcs σ) n s c w sd l r) (n + 1) := by
  intro s' hs'
  rw [zcm_r (by decide) (by omega)]
  by_cases q : s' = s
  · rw [q, zs1_11s]; exact Or.inr ⟨n, by omega, rfl⟩
  · rw [zs1_11 q]
    rcases zcs_W11 w11 s' hs' with z | ⟨t, ht, z⟩
    · exact Or.inl z
    · exact Or.inr ⟨t, by omega, z⟩
theorem zcm_root {s : Nat} {c w sd l : Int32} : zup (zcm σ n s c w sd l (nI 0)) 6 n (nI 1) = zcm σ n s c w sd l (nI 1) := by
  rw [zcm_s1, zcm_s1]
  funext f k
  simp only [zup]
  by_cases a : f = 6 ∧ k = n
  · rw [if_pos a, if_neg (by omega), if_pos a]
  · rw [if_neg a]
    by_cases b : f = 0 ∧ k = 0
    · rw [if_pos b, if_pos b]
    · rw [if_neg b, if_neg b, if_neg a, if_neg a]
/-- rows behind a link tied -/
theorem ztie_n {k l f : Nat} {t kd : Int32} (a : f ≠ 7) (b : f ≠ 8) (c : f ≠ 9) : ztie σ k l t kd f = σ f := by unfold ztie; rw [zup_f a, zup_f c, zup_f b]
theorem ztie_7 {k l i : Nat} {t kd : Int32} (hi : i ≠ k) : ztie σ k l t kd 7 i = σ 7 i := by unfold ztie; rw [zup_k hi, zup_f (by decide), zup_f (by decide)]
theorem ztie_7k {k l : Nat} {t kd : Int32} : ztie σ k l t kd 7 k = nI (l + 1) := by unfold ztie; rw [zup_s]
theorem ztie_8 {k l j : Nat} {t kd : Int32} (hj : j ≠ 3 * k + l) : ztie σ k l t kd 8 j = σ 8 j := by unfold ztie; rw [zup_f (by decide), zup_f (by decide), zup_k hj]
theorem ztie_9 {k l j : Nat} {t kd : Int32} (hj : j ≠ 3 * k + l) : ztie σ k l t kd 9 j = σ 9 j := by unfold ztie; rw [zup_f (by decide), zup_k hj, zup_f (by decide)]
theorem ztie_8k {k l : Nat} {t kd : Int32} : ztie σ k l t kd 8 (3 * k + l) = t := by unfold ztie; rw [zup_f (by decide), zup_f (by decide), zup_s]
theorem ztie_9k {k l : Nat} {t kd : Int32} : ztie σ k l t kd 9 (3 * k + l) = kd := by unfold ztie; rw [zup_f (by decide), zup_s]
theorem ztie_W7 {k t l : Nat} {kd : Int32} (w7 : zW7 σ n) (ht : t < n) (hl : σ 7 k = nI l) (hl3 : l < 3) : zW7 (ztie σ k l (nI t) kd) n := by
  refine zW7.mk' (fun i hi => ?_) (fun i j l' hi hl' e hj => ?_)
  · by_cases q : i = k
    · rw [q, ztie_7k]; exact ⟨l + 1, by omega, rfl⟩
    · rw [ztie_7 q]; exact w7.1 i hi
  · by_cases q : i = k
    · subst q
      rw [ztie_7k] at e
      have el := (nI_eq (by omega) (by omega)).mp e
      by_cases q2 : j = l
      · rw [q2, ztie_8k]; exact ⟨t, ht, rfl⟩
      · rw [ztie_8 (by omega)]
        exact w7.at hi hl (by omega) (by omega)
    · rw [ztie_7 q] at e
      rw [ztie_8 (by omega)]
      exact w7.at hi e hl' hj
theorem ztie_W9 {k t l : Nat} {kd : Int32} (w7 : zW7 σ n) (w9 : zW9 σ n) (ht : t < n) (hl : σ 7 k = nI l) (hl3 : l < 3) (hkd : kd = nI 0 ∨ kd = nI 1 ∨ kd = nI 2) : zW9 (ztie σ k l (nI t) kd) n := by
  refine zW9.mk' (ztie_W7 w7 ht hl hl3).1 (fun i j l' hi hl' e hj => ?_)
  by_cases q : i = k
  · subst q
    rw [ztie_7k] at e
    have el := (nI_eq (by omega) (by omega)).mp e
    by_cases q2 : j = l
    · rw [q2, ztie_9k]; exact hkd
    · rw [ztie_9 (by omega)]
      exact w9.at hi hl (by omega) (by omega)
  · rw [ztie_7 q] at e
    rw [ztie_9 (by omega)]
    exact w9.at hi e hl' hj
/-- rows behind a link untied -/
theorem zun_n {k l p f : Nat} (a : f ≠ 7) (b : f ≠ 8) (c : f ≠ 9) : zun σ k l p f = σ f := by unfold zun; rw [zup_f a, zsh_n b c]
theorem zun_7 {k l p i : Nat} (hi : i ≠ k) : zun σ k l p 7 i = σ 7 i := by unfold zun; rw [zup_k hi, zsh_n (by decide) (by decide)]
theorem zun_7k {k l p : Nat} : zun σ k l p 7 k = nI l := by unfold zun; rw [zup_s]
theorem zun_89 {k l p g j : Nat} (hg : g = 8 ∨ g = 9) : zun σ k l p g j = if 3 * k + p ≤ j ∧ j < 3 * k + l then σ g (j + 1) else σ g j := by
  unfold zun
  rw [zup_f (by omega)]
  unfold zsh
  by_cases c : 3 * k + p ≤ j ∧ j < 3 * k + l
  · rw [if_pos c, if_pos ⟨hg, c⟩]
  · rw [if_neg c, if_neg (fun q => c q.2)]
theorem zun_W {k l p : Nat} (w7 : zW7 σ n) (w9 : zW9 σ n) (hk : k < n) (hl : σ 7 k = nI (l + 1)) (hl3 : l < 3) (hp : p ≤ l) : zW7 (zun σ k l p) n ∧ zW9 (zun σ k l p) n := by
  have key : ∀ i j l', i < n → l' ≤ 3 → zun σ k l p 7 i = nI l' → j < l' → (∃ t, t < n ∧ zun σ k l p 8 (3 * i + j) = nI t) ∧ (zun σ k l p 9 (3 * i + j) = nI 0 ∨ zun σ k l p 9 (3 * i + j) = nI 1 ∨ zun σ k l p 9 (3 * i + j) = nI 2) := by
    intro i j l' hi hl' e hj
    rw [zun_89 (Or.inl rfl), zun_89 (Or.inr rfl)]
    by_cases q : i = k
    · subst q
      rw [zun_7k] at e
      have el := (nI_eq (by omega) (by omega)).mp e
      by_cases q2 : 3 * i + p ≤ 3 * i + j ∧ 3 * i + j < 3 * i + l
      · rw [if_pos q2, if_pos q2, show 3 * i + j + 1 = 3 * i + (j + 1) by omega]
        exact ⟨w7.at hi hl (by omega) (by omega), w9.at hi hl (by omega) (by omega)⟩
      · rw [if_neg q2, if_neg q2]
        exact ⟨w7.at hi hl (by omega) (by omega), w9.at hi hl (by omega) (by omega)⟩
    · rw [zun_7 q] at e
      rw [if_neg (by omega), if_neg (by omega)]
      exact ⟨w7.at hi e hl' hj, w9.at hi e hl' hj⟩
  have k7 : ∀ i, i < n → ∃ l', l' ≤ 3 ∧ zun σ k l p 7 i = nI l' := fun i hi => by
    by_cases q : i = k
    · rw [q, zun_7k]; exact ⟨l, by omega, rfl⟩
    · rw [zun_7 q]; exact w7.1 i hi
  exact ⟨zW7.mk' k7 (fun i j l' hi hl' e hj => (key i j l' hi hl' e hj).1), zW9.mk' k7 (fun i j l' hi hl' e hj => (key i j l' hi hl' e hj).2)⟩
end ROWS

