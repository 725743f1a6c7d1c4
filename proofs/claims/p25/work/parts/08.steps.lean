theorem zs_iadd {D : va_G} {T : Nat → ClassId} {B0 de mi : Nat} {U0 : State} {y pc n x v z : Nat} {ws : List Nat} (hO : zok y (pc, .iadd, n, x, v, z, ws) = true) : zGoal D T B0 de mi U0 y (pc, .iadd, n, x, v, z, ws) := by
  intro p l e R s m args below meth cc hE hC ls st μ c h H locs lsA cells slots Q hH hL hlo hc1 hc2 k
  obtain ⟨hx, hb, hown, hwd, hml, hlk, hrt, hfr, hlc, hW0, hs0, hsz, hin, htb⟩ := hC
  simp only [zok, Bool.and_eq_true, decide_eq_true_eq] at hO
  obtain ⟨hd, -, hn⟩ := hO
  subst hn
  simp only [zstep] at h
  split at h
  · cases h
    simp only [Nat.sub_self, Nat.add_zero] at k
    exact lv_iadd hx hb (zdec hd) (k H locs lsA hH hL hlo)
  · cases h
theorem zs_isub {D : va_G} {T : Nat → ClassId} {B0 de mi : Nat} {U0 : State} {y pc n x v z : Nat} {ws : List Nat} (hO : zok y (pc, .isub, n, x, v, z, ws) = true) : zGoal D T B0 de mi U0 y (pc, .isub, n, x, v, z, ws) := by
  intro p l e R s m args below meth cc hE hC ls st μ c h H locs lsA cells slots Q hH hL hlo hc1 hc2 k
  obtain ⟨hx, hb, hown, hwd, hml, hlk, hrt, hfr, hlc, hW0, hs0, hsz, hin, htb⟩ := hC
  simp only [zok, Bool.and_eq_true, decide_eq_true_eq] at hO
  obtain ⟨hd, -, hn⟩ := hO
  subst hn
  simp only [zstep] at h
  split at h
  · cases h
    simp only [Nat.sub_self, Nat.add_zero] at k
    exact lv_isub hx hb (zdec hd) (k H locs lsA hH hL hlo)
  · cases h
theorem zs_imul {D : va_G} {T : Nat → ClassId} {B0 de mi : Nat} {U0 : State} {y pc n x v z : Nat} {ws : List Nat} (hO : zok y (pc, .imul, n, x, v, z, ws) = true) : zGoal D T B0 de mi U0 y (pc, .imul, n, x, v, z, ws) := by
  intro p l e R s m args below meth cc hE hC ls st μ c h H locs lsA cells slots Q hH hL hlo hc1 hc2 k
  obtain ⟨hx, hb, hown, hwd, hml, hlk, hrt, hfr, hlc, hW0, hs0, hsz, hin, htb⟩ := hC
  simp only [zok, Bool.and_eq_true, decide_eq_true_eq] at hO
  obtain ⟨hd, -, hn⟩ := hO
  subst hn
  simp only [zstep] at h
  split at h
  · cases h
    simp only [Nat.sub_self, Nat.add_zero] at k
    exact lv_imul hx hb (zdec hd) (k H locs lsA hH hL hlo)
  · cases h
theorem zs_iand {D : va_G} {T : Nat → ClassId} {B0 de mi : Nat} {U0 : State} {y pc n x v z : Nat} {ws : List Nat} (hO : zok y (pc, .iand, n, x, v, z, ws) = true) : zGoal D T B0 de mi U0 y (pc, .iand, n, x, v, z, ws) := by
  intro p l e R s m args below meth cc hE hC ls st μ c h H locs lsA cells slots Q hH hL hlo hc1 hc2 k
  obtain ⟨hx, hb, hown, hwd, hml, hlk, hrt, hfr, hlc, hW0, hs0, hsz, hin, htb⟩ := hC
  simp only [zok, Bool.and_eq_true, decide_eq_true_eq] at hO
  obtain ⟨hd, -, hn⟩ := hO
  subst hn
  simp only [zstep] at h
  split at h
  · cases h
    simp only [Nat.sub_self, Nat.add_zero] at k
    exact lv_iand hx hb (zdec hd) (k H locs lsA hH hL hlo)
  · cases h
theorem zs_ior {D : va_G} {T : Nat → ClassId} {B0 de mi : Nat} {U0 : State} {y pc n x v z : Nat} {ws : List Nat} (hO : zok y (pc, .ior, n, x, v, z, ws) = true) : zGoal D T B0 de mi U0 y (pc, .ior, n, x, v, z, ws) := by
  intro p l e R s m args below meth cc hE hC ls st μ c h H locs lsA cells slots Q hH hL hlo hc1 hc2 k
  obtain ⟨hx, hb, hown, hwd, hml, hlk, hrt, hfr, hlc, hW0, hs0, hsz, hin, htb⟩ := hC
  simp only [zok, Bool.and_eq_true, decide_eq_true_eq] at hO
  obtain ⟨hd, -, hn⟩ := hO
  subst hn
  simp only [zstep] at h
  split at h
  · cases h
    simp only [Nat.sub_self, Nat.add_zero] at k
    exact lv_ior hx hb (zdec hd) (k H locs lsA hH hL hlo)
  · cases h
theorem zs_ishl {D : va_G} {T : Nat → ClassId} {B0 de mi : Nat} {U0 : State} {y pc n x v z : Nat} {ws : List Nat} (hO : zok y (pc, .ishl, n, x, v, z, ws) = true) : zGoal D T B0 de mi U0 y (pc, .ishl, n, x, v, z, ws) := by
  intro p l e R s m args below meth cc hE hC ls st μ c h H locs lsA cells slots Q hH hL hlo hc1 hc2 k
  obtain ⟨hx, hb, hown, hwd, hml, hlk, hrt, hfr, hlc, hW0, hs0, hsz, hin, htb⟩ := hC
  simp only [zok, Bool.and_eq_true, decide_eq_true_eq] at hO
  obtain ⟨hd, -, hn⟩ := hO
  subst hn
  simp only [zstep] at h
  split at h
  · cases h
    simp only [Nat.sub_self, Nat.add_zero] at k
    exact lv_ishl hx hb (zdec hd) (k H locs lsA hH hL hlo)
  · cases h
theorem zs_ishr {D : va_G} {T : Nat → ClassId} {B0 de mi : Nat} {U0 : State} {y pc n x v z : Nat} {ws : List Nat} (hO : zok y (pc, .ishr, n, x, v, z, ws) = true) : zGoal D T B0 de mi U0 y (pc, .ishr, n, x, v, z, ws) := by
  intro p l e R s m args below meth cc hE hC ls st μ c h H locs lsA cells slots Q hH hL hlo hc1 hc2 k
  obtain ⟨hx, hb, hown, hwd, hml, hlk, hrt, hfr, hlc, hW0, hs0, hsz, hin, htb⟩ := hC
  simp only [zok, Bool.and_eq_true, decide_eq_true_eq] at hO
  obtain ⟨hd, -, hn⟩ := hO
  subst hn
  simp only [zstep] at h
  split at h
  · cases h
    simp only [Nat.sub_self, Nat.add_zero] at k
    exact lv_ishr hx hb (zdec hd) (k H locs lsA hH hL hlo)
  · cases h
theorem zs_ineg {D : va_G} {T : Nat → ClassId} {B0 de mi : Nat} {U0 : State} {y pc n x v z : Nat} {ws : List Nat} (hO : zok y (pc, .ineg, n, x, v, z, ws) = true) : zGoal D T B0 de mi U0 y (pc, .ineg, n, x, v, z, ws) := by
  intro p l e R s m args below meth cc hE hC ls st μ c h H locs lsA cells slots Q hH hL hlo hc1 hc2 k
  obtain ⟨hx, hb, hown, hwd, hml, hlk, hrt, hfr, hlc, hW0, hs0, hsz, hin, htb⟩ := hC
  simp only [zok, Bool.and_eq_true, decide_eq_true_eq] at hO
  obtain ⟨hd, -, hn⟩ := hO
  subst hn
  simp only [zstep] at h
  split at h
  · cases h
    simp only [Nat.sub_self, Nat.add_zero] at k
    exact lv_ineg hx hb (zdec hd) (k H locs lsA hH hL hlo)
  · cases h
theorem zs_lcmp {D : va_G} {T : Nat → ClassId} {B0 de mi : Nat} {U0 : State} {y pc n x v z : Nat} {ws : List Nat} (hO : zok y (pc, .lcmp, n, x, v, z, ws) = true) : zGoal D T B0 de mi U0 y (pc, .lcmp, n, x, v, z, ws) := by
  intro p l e R s m args below meth cc hE hC ls st μ c h H locs lsA cells slots Q hH hL hlo hc1 hc2 k
  obtain ⟨hx, hb, hown, hwd, hml, hlk, hrt, hfr, hlc, hW0, hs0, hsz, hin, htb⟩ := hC
  simp only [zok, Bool.and_eq_true, decide_eq_true_eq] at hO
  obtain ⟨hd, -, hn⟩ := hO
  subst hn
  simp only [zstep] at h
  split at h
  · cases h
    simp only [Nat.sub_self, Nat.add_zero] at k
    exact W.lcmp hx hb (zdec hd) (k H locs lsA hH hL hlo)
  · cases h
theorem zs_iushr {D : va_G} {T : Nat → ClassId} {B0 de mi : Nat} {U0 : State} {y pc n x v z : Nat} {ws : List Nat} (hO : zok y (pc, .iushr, n, x, v, z, ws) = true) : zGoal D T B0 de mi U0 y (pc, .iushr, n, x, v, z, ws) := by
  intro p l e R s m args below meth cc hE hC ls st μ c h H locs lsA cells slots Q hH hL hlo hc1 hc2 k
  obtain ⟨hx, hb, hown, hwd, hml, hlk, hrt, hfr, hlc, hW0, hs0, hsz, hin, htb⟩ := hC
  simp only [zok, Bool.and_eq_true, decide_eq_true_eq] at hO
  obtain ⟨hd, -, hn⟩ := hO
  subst hn
  simp only [zstep] at h
  split at h
  · cases h
    simp only [Nat.sub_self, Nat.add_zero] at k
    exact lv_iushr hx hb (zdec hd) rfl (k H locs lsA hH hL hlo)
  · cases h
theorem zs_i2l {D : va_G} {T : Nat → ClassId} {B0 de mi : Nat} {U0 : State} {y pc n x v z : Nat} {ws : List Nat} (hO : zok y (pc, .i2l, n, x, v, z, ws) = true) : zGoal D T B0 de mi U0 y (pc, .i2l, n, x, v, z, ws) := by
  intro p l e R s m args below meth cc hE hC ls st μ c h H locs lsA cells slots Q hH hL hlo hc1 hc2 k
  obtain ⟨hx, hb, hown, hwd, hml, hlk, hrt, hfr, hlc, hW0, hs0, hsz, hin, htb⟩ := hC
  simp only [zok, Bool.and_eq_true, decide_eq_true_eq] at hO
  obtain ⟨hd, -, hn⟩ := hO
  subst hn
  simp only [zstep] at h
  split at h
  · cases h
    simp only [Nat.sub_self, Nat.add_zero] at k
    exact lv_i2l hx hb (zdec hd) rfl (k H locs lsA hH hL hlo)
  · cases h
theorem zs_idiv {D : va_G} {T : Nat → ClassId} {B0 de mi : Nat} {U0 : State} {y pc n x v z : Nat} {ws : List Nat} (hO : zok y (pc, .idiv, n, x, v, z, ws) = true) : zGoal D T B0 de mi U0 y (pc, .idiv, n, x, v, z, ws) := by
  intro p l e R s m args below meth cc hE hC ls st μ c h H locs lsA cells slots Q hH hL hlo hc1 hc2 k
  obtain ⟨hx, hb, hown, hwd, hml, hlk, hrt, hfr, hlc, hW0, hs0, hsz, hin, htb⟩ := hC
  simp only [zok, Bool.and_eq_true, decide_eq_true_eq] at hO
  obtain ⟨hd, -, hn⟩ := hO
  subst hn
  simp only [zstep] at h
  split at h
  · split at h
    · cases h
    · next hz =>
      cases h
      simp only [Nat.sub_self, Nat.add_zero] at k
      exact lv_idiv hx hb (zdec hd) hz (k H locs lsA hH hL hlo)
  · cases h
theorem zs_irem {D : va_G} {T : Nat → ClassId} {B0 de mi : Nat} {U0 : State} {y pc n x v z : Nat} {ws : List Nat} (hO : zok y (pc, .irem, n, x, v, z, ws) = true) : zGoal D T B0 de mi U0 y (pc, .irem, n, x, v, z, ws) := by
  intro p l e R s m args below meth cc hE hC ls st μ c h H locs lsA cells slots Q hH hL hlo hc1 hc2 k
  obtain ⟨hx, hb, hown, hwd, hml, hlk, hrt, hfr, hlc, hW0, hs0, hsz, hin, htb⟩ := hC
  simp only [zok, Bool.and_eq_true, decide_eq_true_eq] at hO
  obtain ⟨hd, -, hn⟩ := hO
  subst hn
  simp only [zstep] at h
  split at h
  · split at h
    · cases h
    · next hz =>
      cases h
      simp only [Nat.sub_self, Nat.add_zero] at k
      exact lv_irem hx hb (zdec hd) hz (k H locs lsA hH hL hlo)
  · cases h
theorem zs_dup {D : va_G} {T : Nat → ClassId} {B0 de mi : Nat} {U0 : State} {y pc n x v z : Nat} {ws : List Nat} (hO : zok y (pc, .dup, n, x, v, z, ws) = true) : zGoal D T B0 de mi U0 y (pc, .dup, n, x, v, z, ws) := by
  intro p l e R s m args below meth cc hE hC ls st μ c h H locs lsA cells slots Q hH hL hlo hc1 hc2 k
  obtain ⟨hx, hb, hown, hwd, hml, hlk, hrt, hfr, hlc, hW0, hs0, hsz, hin, htb⟩ := hC
  simp only [zok, Bool.and_eq_true, decide_eq_true_eq] at hO
  obtain ⟨hd, -, hn⟩ := hO
  subst hn
  simp only [zstep] at h
  split at h
  · split at h
    · next hz =>
      cases h
      simp only [Nat.sub_self, Nat.add_zero] at k
      exact lv_dup hx hb (zdec hd) hz (k H locs lsA hH hL hlo)
    · cases h
  · cases h
theorem zs_pop {D : va_G} {T : Nat → ClassId} {B0 de mi : Nat} {U0 : State} {y pc n x v z : Nat} {ws : List Nat} (hO : zok y (pc, .pop, n, x, v, z, ws) = true) : zGoal D T B0 de mi U0 y (pc, .pop, n, x, v, z, ws) := by
  intro p l e R s m args below meth cc hE hC ls st μ c h H locs lsA cells slots Q hH hL hlo hc1 hc2 k
  obtain ⟨hx, hb, hown, hwd, hml, hlk, hrt, hfr, hlc, hW0, hs0, hsz, hin, htb⟩ := hC
  simp only [zok, Bool.and_eq_true, decide_eq_true_eq] at hO
  obtain ⟨hd, -, hn⟩ := hO
  subst hn
  simp only [zstep] at h
  split at h
  · split at h
    · next hz =>
      cases h
      simp only [Nat.sub_self, Nat.add_zero] at k
      exact lv_pop hx hb (zdec hd) hz (k H locs lsA hH hL hlo)
    · cases h
  · cases h
theorem zs_dup_x1 {D : va_G} {T : Nat → ClassId} {B0 de mi : Nat} {U0 : State} {y pc n x v z : Nat} {ws : List Nat} (hO : zok y (pc, .dup_x1, n, x, v, z, ws) = true) : zGoal D T B0 de mi U0 y (pc, .dup_x1, n, x, v, z, ws) := by
  intro p l e R s m args below meth cc hE hC ls st μ c h H locs lsA cells slots Q hH hL hlo hc1 hc2 k
  obtain ⟨hx, hb, hown, hwd, hml, hlk, hrt, hfr, hlc, hW0, hs0, hsz, hin, htb⟩ := hC
  simp only [zok, Bool.and_eq_true, decide_eq_true_eq] at hO
  obtain ⟨hd, -, hn⟩ := hO
  subst hn
  simp only [zstep] at h
  split at h
  · split at h
    · next hz =>
      cases h
      simp only [Nat.sub_self, Nat.add_zero] at k
      exact lv_dup_x1 hx hb (zdec hd) hz.1 hz.2 (k H locs lsA hH hL hlo)
    · cases h
  · cases h
theorem zs_dup2 {D : va_G} {T : Nat → ClassId} {B0 de mi : Nat} {U0 : State} {y pc n x v z : Nat} {ws : List Nat} (hO : zok y (pc, .dup2, n, x, v, z, ws) = true) : zGoal D T B0 de mi U0 y (pc, .dup2, n, x, v, z, ws) := by
  intro p l e R s m args below meth cc hE hC ls st μ c h H locs lsA cells slots Q hH hL hlo hc1 hc2 k
  obtain ⟨hx, hb, hown, hwd, hml, hlk, hrt, hfr, hlc, hW0, hs0, hsz, hin, htb⟩ := hC
  simp only [zok, Bool.and_eq_true, decide_eq_true_eq] at hO
  obtain ⟨hd, -, hn⟩ := hO
  subst hn
  simp only [zstep] at h
  split at h
  · split at h
    · next hz =>
      cases h
      simp only [Nat.sub_self, Nat.add_zero] at k
      exact lv_dup2_11 hx hb (zdec hd) hz.1 hz.2 (k H locs lsA hH hL hlo)
    · cases h
  · cases h
theorem zs_aconst_null {D : va_G} {T : Nat → ClassId} {B0 de mi : Nat} {U0 : State} {y pc n x v z : Nat} {ws : List Nat} (hO : zok y (pc, .aconst_null, n, x, v, z, ws) = true) : zGoal D T B0 de mi U0 y (pc, .aconst_null, n, x, v, z, ws) := by
  intro p l e R s m args below meth cc hE hC ls st μ c h H locs lsA cells slots Q hH hL hlo hc1 hc2 k
  obtain ⟨hx, hb, hown, hwd, hml, hlk, hrt, hfr, hlc, hW0, hs0, hsz, hin, htb⟩ := hC
  simp only [zok, Bool.and_eq_true, decide_eq_true_eq] at hO
  obtain ⟨hd, -, hn⟩ := hO
  subst hn
  simp only [zstep] at h
  cases h
  simp only [Nat.sub_self, Nat.add_zero] at k
  exact lv_null hx hb (zdec hd) (k H locs lsA hH hL hlo)
theorem zs_iconst {D : va_G} {T : Nat → ClassId} {B0 de mi : Nat} {U0 : State} {y pc n x v z : Nat} {ws : List Nat} {i : Int} (hO : zok y (pc, (.iconst i), n, x, v, z, ws) = true) : zGoal D T B0 de mi U0 y (pc, (.iconst i), n, x, v, z, ws) := by
  intro p l e R s m args below meth cc hE hC ls st μ c h H locs lsA cells slots Q hH hL hlo hc1 hc2 k
  obtain ⟨hx, hb, hown, hwd, hml, hlk, hrt, hfr, hlc, hW0, hs0, hsz, hin, htb⟩ := hC
  simp only [zok, Bool.and_eq_true, decide_eq_true_eq] at hO
  obtain ⟨hd, -, hv, hn⟩ := hO
  subst hn
  simp only [zstep] at h
  cases h
  simp only [Nat.sub_self, Nat.add_zero] at k
  exact lv_iconst hx hb (zdec hd) hv (k H locs lsA hH hL hlo)
theorem zs_bipush {D : va_G} {T : Nat → ClassId} {B0 de mi : Nat} {U0 : State} {y pc n x v z : Nat} {ws : List Nat} {i : Int} (hO : zok y (pc, (.bipush i), n, x, v, z, ws) = true) : zGoal D T B0 de mi U0 y (pc, (.bipush i), n, x, v, z, ws) := by
  intro p l e R s m args below meth cc hE hC ls st μ c h H locs lsA cells slots Q hH hL hlo hc1 hc2 k
  obtain ⟨hx, hb, hown, hwd, hml, hlk, hrt, hfr, hlc, hW0, hs0, hsz, hin, htb⟩ := hC
  simp only [zok, Bool.and_eq_true, decide_eq_true_eq] at hO
  obtain ⟨hd, -, hv, hn⟩ := hO
  subst hn
  simp only [zstep] at h
  cases h
  simp only [Nat.sub_self, Nat.add_zero] at k
  exact lv_bipush hx hb (zdec hd) hv (k H locs lsA hH hL hlo)
theorem zs_sipush {D : va_G} {T : Nat → ClassId} {B0 de mi : Nat} {U0 : State} {y pc n x v z : Nat} {ws : List Nat} {i : Int} (hO : zok y (pc, (.sipush i), n, x, v, z, ws) = true) : zGoal D T B0 de mi U0 y (pc, (.sipush i), n, x, v, z, ws) := by
  intro p l e R s m args below meth cc hE hC ls st μ c h H locs lsA cells slots Q hH hL hlo hc1 hc2 k
  obtain ⟨hx, hb, hown, hwd, hml, hlk, hrt, hfr, hlc, hW0, hs0, hsz, hin, htb⟩ := hC
  simp only [zok, Bool.and_eq_true, decide_eq_true_eq] at hO
  obtain ⟨hd, -, hv, hn⟩ := hO
  subst hn
  simp only [zstep] at h
  cases h
  simp only [Nat.sub_self, Nat.add_zero] at k
  exact lv_sipush hx hb (zdec hd) hv (k H locs lsA hH hL hlo)
theorem zs_goto {D : va_G} {T : Nat → ClassId} {B0 de mi : Nat} {U0 : State} {y pc n x v z : Nat} {ws : List Nat} {off : Int} (hO : zok y (pc, (.goto off), n, x, v, z, ws) = true) : zGoal D T B0 de mi U0 y (pc, (.goto off), n, x, v, z, ws) := by
  intro p l e R s m args below meth cc hE hC ls st μ c h H locs lsA cells slots Q hH hL hlo hc1 hc2 k
  obtain ⟨hx, hb, hown, hwd, hml, hlk, hrt, hfr, hlc, hW0, hs0, hsz, hin, htb⟩ := hC
  simp only [zok, Bool.and_eq_true, decide_eq_true_eq] at hO
  obtain ⟨hd, -, ht, hn⟩ := hO
  subst hn
  simp only [zstep] at h
  cases h
  simp only [Nat.sub_self, Nat.add_zero] at k
  exact lv_goto hx hb (zdec hd) ht (k H locs lsA hH hL hlo)
theorem zs_iload_n {D : va_G} {T : Nat → ClassId} {B0 de mi : Nat} {U0 : State} {y pc n x v z : Nat} {ws : List Nat} {k0 : Fin 4} (hO : zok y (pc, (.iload_n k0), n, x, v, z, ws) = true) : zGoal D T B0 de mi U0 y (pc, (.iload_n k0), n, x, v, z, ws) := by
  intro p l e R s m args below meth cc hE hC ls st μ c h H locs lsA cells slots Q hH hL hlo hc1 hc2 k
  obtain ⟨hx, hb, hown, hwd, hml, hlk, hrt, hfr, hlc, hW0, hs0, hsz, hin, htb⟩ := hC
  simp only [zok, Bool.and_eq_true, decide_eq_true_eq] at hO
  obtain ⟨hd, -, hi, hn⟩ := hO
  subst hn
  subst hi
  simp only [zstep] at h
  split at h
  · next w hw =>
    cases h
    simp only [Nat.sub_self, Nat.add_zero] at k
    exact lv_iload_n hx hb (zdec hd) rfl (zlv_at hL hw) (k H locs lsA hH hL hlo)
  · cases h
theorem zs_iload {D : va_G} {T : Nat → ClassId} {B0 de mi : Nat} {U0 : State} {y pc n x v z : Nat} {ws : List Nat} {k0 : Nat} (hO : zok y (pc, (.iload k0), n, x, v, z, ws) = true) : zGoal D T B0 de mi U0 y (pc, (.iload k0), n, x, v, z, ws) := by
  intro p l e R s m args below meth cc hE hC ls st μ c h H locs lsA cells slots Q hH hL hlo hc1 hc2 k
  obtain ⟨hx, hb, hown, hwd, hml, hlk, hrt, hfr, hlc, hW0, hs0, hsz, hin, htb⟩ := hC
  simp only [zok, Bool.and_eq_true, decide_eq_true_eq] at hO
  obtain ⟨hd, -, hi, hn⟩ := hO
  subst hn
  subst hi
  simp only [zstep] at h
  split at h
  · next w hw =>
    cases h
    simp only [Nat.sub_self, Nat.add_zero] at k
    exact lv_iload hx hb (zdec hd) (zlv_at hL hw) (k H locs lsA hH hL hlo)
  · cases h
theorem zs_aload_n {D : va_G} {T : Nat → ClassId} {B0 de mi : Nat} {U0 : State} {y pc n x v z : Nat} {ws : List Nat} {k0 : Fin 4} (hO : zok y (pc, (.aload_n k0), n, x, v, z, ws) = true) : zGoal D T B0 de mi U0 y (pc, (.aload_n k0), n, x, v, z, ws) := by
  intro p l e R s m args below meth cc hE hC ls st μ c h H locs lsA cells slots Q hH hL hlo hc1 hc2 k
  obtain ⟨hx, hb, hown, hwd, hml, hlk, hrt, hfr, hlc, hW0, hs0, hsz, hin, htb⟩ := hC
  simp only [zok, Bool.and_eq_true, decide_eq_true_eq] at hO
  obtain ⟨hd, -, hi, hn⟩ := hO
  subst hn
  subst hi
  simp only [zstep] at h
  split at h
  · next w hw =>
    cases h
    simp only [Nat.sub_self, Nat.add_zero] at k
    exact lv_aload_n hx hb (zdec hd) rfl (zlv_at hL hw) (k H locs lsA hH hL hlo)
  · next hw =>
    cases h
    simp only [Nat.sub_self, Nat.add_zero] at k
    exact lv_aload_nN hx hb (zdec hd) rfl (zlv_at hL hw) (k H locs lsA hH hL hlo)
  · cases h
theorem zs_aload {D : va_G} {T : Nat → ClassId} {B0 de mi : Nat} {U0 : State} {y pc n x v z : Nat} {ws : List Nat} {k0 : Nat} (hO : zok y (pc, (.aload k0), n, x, v, z, ws) = true) : zGoal D T B0 de mi U0 y (pc, (.aload k0), n, x, v, z, ws) := by
  intro p l e R s m args below meth cc hE hC ls st μ c h H locs lsA cells slots Q hH hL hlo hc1 hc2 k
  obtain ⟨hx, hb, hown, hwd, hml, hlk, hrt, hfr, hlc, hW0, hs0, hsz, hin, htb⟩ := hC
  simp only [zok, Bool.and_eq_true, decide_eq_true_eq] at hO
  obtain ⟨hd, -, hi, hn⟩ := hO
  subst hn
  subst hi
  simp only [zstep] at h
  split at h
  · next w hw =>
    cases h
    simp only [Nat.sub_self, Nat.add_zero] at k
    exact lv_aload hx hb (zdec hd) (zlv_at hL hw) (k H locs lsA hH hL hlo)
  · next hw =>
    cases h
    simp only [Nat.sub_self, Nat.add_zero] at k
    exact lv_aloadN hx hb (zdec hd) (zlv_at hL hw) (k H locs lsA hH hL hlo)
  · cases h
theorem zs_istore_n {D : va_G} {T : Nat → ClassId} {B0 de mi : Nat} {U0 : State} {y pc n x v z : Nat} {ws : List Nat} {k0 : Fin 4} (hO : zok y (pc, (.istore_n k0), n, x, v, z, ws) = true) : zGoal D T B0 de mi U0 y (pc, (.istore_n k0), n, x, v, z, ws) := by
  intro p l e R s m args below meth cc hE hC ls st μ c h H locs lsA cells slots Q hH hL hlo hc1 hc2 k
  obtain ⟨hx, hb, hown, hwd, hml, hlk, hrt, hfr, hlc, hW0, hs0, hsz, hin, htb⟩ := hC
  simp only [zok, Bool.and_eq_true, decide_eq_true_eq] at hO
  obtain ⟨hd, -, hi, hn⟩ := hO
  subst hn
  subst hi
  simp only [zstep] at h
  split at h
  · split at h
    · next hl =>
      cases h
      simp only [Nat.sub_self, Nat.add_zero] at k
      exact lv_istore_n hx hb (zdec hd) rfl (zlv_has hL) (by rw [← hL.2.2.1]; exact hl) rfl (fun ls' h' => k H locs ls' hH (zlv_set hL rfl hl h') hlo)
    · cases h
  · cases h
theorem zs_istore {D : va_G} {T : Nat → ClassId} {B0 de mi : Nat} {U0 : State} {y pc n x v z : Nat} {ws : List Nat} {k0 : Nat} (hO : zok y (pc, (.istore k0), n, x, v, z, ws) = true) : zGoal D T B0 de mi U0 y (pc, (.istore k0), n, x, v, z, ws) := by
  intro p l e R s m args below meth cc hE hC ls st μ c h H locs lsA cells slots Q hH hL hlo hc1 hc2 k
  obtain ⟨hx, hb, hown, hwd, hml, hlk, hrt, hfr, hlc, hW0, hs0, hsz, hin, htb⟩ := hC
  simp only [zok, Bool.and_eq_true, decide_eq_true_eq] at hO
  obtain ⟨hd, -, hi, hn⟩ := hO
  subst hn
  subst hi
  simp only [zstep] at h
  split at h
  · split at h
    · next hl =>
      cases h
      simp only [Nat.sub_self, Nat.add_zero] at k
      exact lv_istore hx hb (zdec hd) (zlv_has hL) (by rw [← hL.2.2.1]; exact hl) rfl (fun ls' h' => k H locs ls' hH (zlv_set hL rfl hl h') hlo)
    · cases h
  · cases h
theorem zs_astore_n {D : va_G} {T : Nat → ClassId} {B0 de mi : Nat} {U0 : State} {y pc n x v z : Nat} {ws : List Nat} {k0 : Fin 4} (hO : zok y (pc, (.astore_n k0), n, x, v, z, ws) = true) : zGoal D T B0 de mi U0 y (pc, (.astore_n k0), n, x, v, z, ws) := by
  intro p l e R s m args below meth cc hE hC ls st μ c h H locs lsA cells slots Q hH hL hlo hc1 hc2 k
  obtain ⟨hx, hb, hown, hwd, hml, hlk, hrt, hfr, hlc, hW0, hs0, hsz, hin, htb⟩ := hC
  simp only [zok, Bool.and_eq_true, decide_eq_true_eq] at hO
  obtain ⟨hd, -, hi, hn⟩ := hO
  subst hn
  subst hi
  simp only [zstep] at h
  split at h
  · split at h
    · next hl =>
      cases h
      simp only [Nat.sub_self, Nat.add_zero] at k
      exact lv_astore_n hx hb (zdec hd) rfl (zlv_has hL) (by rw [← hL.2.2.1]; exact hl) rfl (fun ls' h' => k H locs ls' hH (zlv_set hL rfl hl h') hlo)
    · cases h
  · split at h
    · next hl =>
      cases h
      simp only [Nat.sub_self, Nat.add_zero] at k
      exact lv_astore_nN hx hb (zdec hd) rfl (zlv_has hL) (by rw [← hL.2.2.1]; exact hl) rfl (fun ls' h' => k H locs ls' hH (zlv_set hL rfl hl h') hlo)
    · cases h
  · cases h
theorem zs_astore {D : va_G} {T : Nat → ClassId} {B0 de mi : Nat} {U0 : State} {y pc n x v z : Nat} {ws : List Nat} {k0 : Nat} (hO : zok y (pc, (.astore k0), n, x, v, z, ws) = true) : zGoal D T B0 de mi U0 y (pc, (.astore k0), n, x, v, z, ws) := by
  intro p l e R s m args below meth cc hE hC ls st μ c h H locs lsA cells slots Q hH hL hlo hc1 hc2 k
  obtain ⟨hx, hb, hown, hwd, hml, hlk, hrt, hfr, hlc, hW0, hs0, hsz, hin, htb⟩ := hC
  simp only [zok, Bool.and_eq_true, decide_eq_true_eq] at hO
  obtain ⟨hd, -, hi, hn⟩ := hO
  subst hn
  subst hi
  simp only [zstep] at h
  split at h
  · split at h
    · next hl =>
      cases h
      simp only [Nat.sub_self, Nat.add_zero] at k
      exact lv_astore hx hb (zdec hd) (zlv_has hL) (by rw [← hL.2.2.1]; exact hl) rfl (fun ls' h' => k H locs ls' hH (zlv_set hL rfl hl h') hlo)
    · cases h
  · split at h
    · next hl =>
      cases h
      simp only [Nat.sub_self, Nat.add_zero] at k
      exact lv_astoreN hx hb (zdec hd) (zlv_has hL) (by rw [← hL.2.2.1]; exact hl) rfl (fun ls' h' => k H locs ls' hH (zlv_set hL rfl hl h') hlo)
    · cases h
  · cases h
theorem zs_iinc {D : va_G} {T : Nat → ClassId} {B0 de mi : Nat} {U0 : State} {y pc n x v z : Nat} {ws : List Nat} {k0 : Nat} {i : Int} (hO : zok y (pc, (.iinc k0 i), n, x, v, z, ws) = true) : zGoal D T B0 de mi U0 y (pc, (.iinc k0 i), n, x, v, z, ws) := by
  intro p l e R s m args below meth cc hE hC ls st μ c h H locs lsA cells slots Q hH hL hlo hc1 hc2 k
  obtain ⟨hx, hb, hown, hwd, hml, hlk, hrt, hfr, hlc, hW0, hs0, hsz, hin, htb⟩ := hC
  simp only [zok, Bool.and_eq_true, decide_eq_true_eq] at hO
  obtain ⟨hd, -, ⟨hi, hv⟩, hn⟩ := hO
  subst hn
  subst hi
  simp only [zstep] at h
  split at h
  · next w hw =>
    split at h
    · next hl =>
      cases h
      simp only [Nat.sub_self, Nat.add_zero] at k
      have hm : (k0, Value.int w) ∈ zas ls := zas_mem.mpr (by
        unfold zld at hw
        split at hw
        · next q hq => rw [hq]; cases hw; rfl
        · cases hw)
      obtain ⟨j, hj⟩ := List.getElem?_of_mem hm
      exact lv_iinc (k := j) hx hb (zdec hd) (zlv_has hL) hj (by rw [hv]) (by rw [← hL.2.2.1]; exact hl) rfl (fun ls' h' => k H locs ls' hH (zlv_set hL rfl hl h') hlo)
    · cases h
  · cases h
theorem zs_ifCond_eq {D : va_G} {T : Nat → ClassId} {B0 de mi : Nat} {U0 : State} {y pc n x v z : Nat} {ws : List Nat} {off : Int} (hO : zok y (pc, (.ifCond .eq off), n, x, v, z, ws) = true) : zGoal D T B0 de mi U0 y (pc, (.ifCond .eq off), n, x, v, z, ws) := by
  intro p l e R s m args below meth cc hE hC ls st μ c h H locs lsA cells slots Q hH hL hlo hc1 hc2 k
  obtain ⟨hx, hb, hown, hwd, hml, hlk, hrt, hfr, hlc, hW0, hs0, hsz, hin, htb⟩ := hC
  simp only [zok, Bool.and_eq_true, decide_eq_true_eq] at hO
  obtain ⟨hd, -, ht, hn⟩ := hO
  subst hn
  simp only [zstep] at h
  split at h
  · refine lv_if_eq hx hb (zdec hd) ht (fun hz => ?_) (fun hz => ?_)
    · rw [if_pos hz] at h
      cases h
      simp only [Nat.sub_self, Nat.add_zero] at k
      exact k H locs lsA hH hL hlo
    · rw [if_neg (by first | exact hz | exact fun q => q hz)] at h
      cases h
      simp only [Nat.sub_self, Nat.add_zero] at k
      exact k H locs lsA hH hL hlo
  · cases h
theorem zs_ifCond_ne {D : va_G} {T : Nat → ClassId} {B0 de mi : Nat} {U0 : State} {y pc n x v z : Nat} {ws : List Nat} {off : Int} (hO : zok y (pc, (.ifCond .ne off), n, x, v, z, ws) = true) : zGoal D T B0 de mi U0 y (pc, (.ifCond .ne off), n, x, v, z, ws) := by
  intro p l e R s m args below meth cc hE hC ls st μ c h H locs lsA cells slots Q hH hL hlo hc1 hc2 k
  obtain ⟨hx, hb, hown, hwd, hml, hlk, hrt, hfr, hlc, hW0, hs0, hsz, hin, htb⟩ := hC
  simp only [zok, Bool.and_eq_true, decide_eq_true_eq] at hO
  obtain ⟨hd, -, ht, hn⟩ := hO
  subst hn
  simp only [zstep] at h
  split at h
  · refine lv_if_ne hx hb (zdec hd) ht (fun hz => ?_) (fun hz => ?_)
    · rw [if_pos hz] at h
      cases h
      simp only [Nat.sub_self, Nat.add_zero] at k
      exact k H locs lsA hH hL hlo
    · rw [if_neg (by first | exact hz | exact fun q => q hz)] at h
      cases h
      simp only [Nat.sub_self, Nat.add_zero] at k
      exact k H locs lsA hH hL hlo
  · cases h
theorem zs_ifCond_lt {D : va_G} {T : Nat → ClassId} {B0 de mi : Nat} {U0 : State} {y pc n x v z : Nat} {ws : List Nat} {off : Int} (hO : zok y (pc, (.ifCond .lt off), n, x, v, z, ws) = true) : zGoal D T B0 de mi U0 y (pc, (.ifCond .lt off), n, x, v, z, ws) := by
  intro p l e R s m args below meth cc hE hC ls st μ c h H locs lsA cells slots Q hH hL hlo hc1 hc2 k
  obtain ⟨hx, hb, hown, hwd, hml, hlk, hrt, hfr, hlc, hW0, hs0, hsz, hin, htb⟩ := hC
  simp only [zok, Bool.and_eq_true, decide_eq_true_eq] at hO
  obtain ⟨hd, -, ht, hn⟩ := hO
  subst hn
  simp only [zstep] at h
  split at h
  · refine lv_if_lt hx hb (zdec hd) ht (fun hz => ?_) (fun hz => ?_)
    · rw [if_pos hz] at h
      cases h
      simp only [Nat.sub_self, Nat.add_zero] at k
      exact k H locs lsA hH hL hlo
    · rw [if_neg (by first | exact hz | exact fun q => q hz)] at h
      cases h
      simp only [Nat.sub_self, Nat.add_zero] at k
      exact k H locs lsA hH hL hlo
  · cases h
theorem zs_ifCond_ge {D : va_G} {T : Nat → ClassId} {B0 de mi : Nat} {U0 : State} {y pc n x v z : Nat} {ws : List Nat} {off : Int} (hO : zok y (pc, (.ifCond .ge off), n, x, v, z, ws) = true) : zGoal D T B0 de mi U0 y (pc, (.ifCond .ge off), n, x, v, z, ws) := by
  intro p l e R s m args below meth cc hE hC ls st μ c h H locs lsA cells slots Q hH hL hlo hc1 hc2 k
  obtain ⟨hx, hb, hown, hwd, hml, hlk, hrt, hfr, hlc, hW0, hs0, hsz, hin, htb⟩ := hC
  simp only [zok, Bool.and_eq_true, decide_eq_true_eq] at hO
  obtain ⟨hd, -, ht, hn⟩ := hO
  subst hn
  simp only [zstep] at h
  split at h
  · refine lv_if_ge hx hb (zdec hd) ht (fun hz => ?_) (fun hz => ?_)
    · rw [if_pos hz] at h
      cases h
      simp only [Nat.sub_self, Nat.add_zero] at k
      exact k H locs lsA hH hL hlo
    · rw [if_neg (by first | exact hz | exact fun q => q hz)] at h
      cases h
      simp only [Nat.sub_self, Nat.add_zero] at k
      exact k H locs lsA hH hL hlo
  · cases h
theorem zs_ifCond_gt {D : va_G} {T : Nat → ClassId} {B0 de mi : Nat} {U0 : State} {y pc n x v z : Nat} {ws : List Nat} {off : Int} (hO : zok y (pc, (.ifCond .gt off), n, x, v, z, ws) = true) : zGoal D T B0 de mi U0 y (pc, (.ifCond .gt off), n, x, v, z, ws) := by
  intro p l e R s m args below meth cc hE hC ls st μ c h H locs lsA cells slots Q hH hL hlo hc1 hc2 k
  obtain ⟨hx, hb, hown, hwd, hml, hlk, hrt, hfr, hlc, hW0, hs0, hsz, hin, htb⟩ := hC
  simp only [zok, Bool.and_eq_true, decide_eq_true_eq] at hO
  obtain ⟨hd, -, ht, hn⟩ := hO
  subst hn
  simp only [zstep] at h
  split at h
  · refine lv_if_gt hx hb (zdec hd) ht (fun hz => ?_) (fun hz => ?_)
    · rw [if_pos hz] at h
      cases h
      simp only [Nat.sub_self, Nat.add_zero] at k
      exact k H locs lsA hH hL hlo
    · rw [if_neg (by first | exact hz | exact fun q => q hz)] at h
      cases h
      simp only [Nat.sub_self, Nat.add_zero] at k
      exact k H locs lsA hH hL hlo
  · cases h
theorem zs_ifCond_le {D : va_G} {T : Nat → ClassId} {B0 de mi : Nat} {U0 : State} {y pc n x v z : Nat} {ws : List Nat} {off : Int} (hO : zok y (pc, (.ifCond .le off), n, x, v, z, ws) = true) : zGoal D T B0 de mi U0 y (pc, (.ifCond .le off), n, x, v, z, ws) := by
  intro p l e R s m args below meth cc hE hC ls st μ c h H locs lsA cells slots Q hH hL hlo hc1 hc2 k
  obtain ⟨hx, hb, hown, hwd, hml, hlk, hrt, hfr, hlc, hW0, hs0, hsz, hin, htb⟩ := hC
  simp only [zok, Bool.and_eq_true, decide_eq_true_eq] at hO
  obtain ⟨hd, -, ht, hn⟩ := hO
  subst hn
  simp only [zstep] at h
  split at h
  · refine lv_if_le hx hb (zdec hd) ht (fun hz => ?_) (fun hz => ?_)
    · rw [if_pos hz] at h
      cases h
      simp only [Nat.sub_self, Nat.add_zero] at k
      exact k H locs lsA hH hL hlo
    · rw [if_neg (by first | exact hz | exact fun q => q hz)] at h
      cases h
      simp only [Nat.sub_self, Nat.add_zero] at k
      exact k H locs lsA hH hL hlo
  · cases h
theorem zs_if_icmp_eq {D : va_G} {T : Nat → ClassId} {B0 de mi : Nat} {U0 : State} {y pc n x v z : Nat} {ws : List Nat} {off : Int} (hO : zok y (pc, (.if_icmp .eq off), n, x, v, z, ws) = true) : zGoal D T B0 de mi U0 y (pc, (.if_icmp .eq off), n, x, v, z, ws) := by
  intro p l e R s m args below meth cc hE hC ls st μ c h H locs lsA cells slots Q hH hL hlo hc1 hc2 k
  obtain ⟨hx, hb, hown, hwd, hml, hlk, hrt, hfr, hlc, hW0, hs0, hsz, hin, htb⟩ := hC
  simp only [zok, Bool.and_eq_true, decide_eq_true_eq] at hO
  obtain ⟨hd, -, ht, hn⟩ := hO
  subst hn
  simp only [zstep] at h
  split at h
  · refine lv_icmp_eq hx hb (zdec hd) ht (fun hz => ?_) (fun hz => ?_)
    · rw [if_pos hz] at h
      cases h
      simp only [Nat.sub_self, Nat.add_zero] at k
      exact k H locs lsA hH hL hlo
    · rw [if_neg (by first | exact hz | exact fun q => q hz)] at h
      cases h
      simp only [Nat.sub_self, Nat.add_zero] at k
      exact k H locs lsA hH hL hlo
  · cases h
theorem zs_if_icmp_ne {D : va_G} {T : Nat → ClassId} {B0 de mi : Nat} {U0 : State} {y pc n x v z : Nat} {ws : List Nat} {off : Int} (hO : zok y (pc, (.if_icmp .ne off), n, x, v, z, ws) = true) : zGoal D T B0 de mi U0 y (pc, (.if_icmp .ne off), n, x, v, z, ws) := by
  intro p l e R s m args below meth cc hE hC ls st μ c h H locs lsA cells slots Q hH hL hlo hc1 hc2 k
  obtain ⟨hx, hb, hown, hwd, hml, hlk, hrt, hfr, hlc, hW0, hs0, hsz, hin, htb⟩ := hC
  simp only [zok, Bool.and_eq_true, decide_eq_true_eq] at hO
  obtain ⟨hd, -, ht, hn⟩ := hO
  subst hn
  simp only [zstep] at h
  split at h
  · refine lv_icmp_ne hx hb (zdec hd) ht (fun hz => ?_) (fun hz => ?_)
    · rw [if_pos hz] at h
      cases h
      simp only [Nat.sub_self, Nat.add_zero] at k
      exact k H locs lsA hH hL hlo
    · rw [if_neg (by first | exact hz | exact fun q => q hz)] at h
      cases h
      simp only [Nat.sub_self, Nat.add_zero] at k
      exact k H locs lsA hH hL hlo
  · cases h
theorem zs_if_icmp_lt {D : va_G} {T : Nat → ClassId} {B0 de mi : Nat} {U0 : State} {y pc n x v z : Nat} {ws : List Nat} {off : Int} (hO : zok y (pc, (.if_icmp .lt off), n, x, v, z, ws) = true) : zGoal D T B0 de mi U0 y (pc, (.if_icmp .lt off), n, x, v, z, ws) := by
  intro p l e R s m args below meth cc hE hC ls st μ c h H locs lsA cells slots Q hH hL hlo hc1 hc2 k
  obtain ⟨hx, hb, hown, hwd, hml, hlk, hrt, hfr, hlc, hW0, hs0, hsz, hin, htb⟩ := hC
  simp only [zok, Bool.and_eq_true, decide_eq_true_eq] at hO
  obtain ⟨hd, -, ht, hn⟩ := hO
  subst hn
  simp only [zstep] at h
  split at h
  · refine lv_icmp_lt hx hb (zdec hd) ht (fun hz => ?_) (fun hz => ?_)
    · rw [if_pos hz] at h
      cases h
      simp only [Nat.sub_self, Nat.add_zero] at k
      exact k H locs lsA hH hL hlo
    · rw [if_neg (by first | exact hz | exact fun q => q hz)] at h
      cases h
      simp only [Nat.sub_self, Nat.add_zero] at k
      exact k H locs lsA hH hL hlo
  · cases h
theorem zs_if_icmp_ge {D : va_G} {T : Nat → ClassId} {B0 de mi : Nat} {U0 : State} {y pc n x v z : Nat} {ws : List Nat} {off : Int} (hO : zok y (pc, (.if_icmp .ge off), n, x, v, z, ws) = true) : zGoal D T B0 de mi U0 y (pc, (.if_icmp .ge off), n, x, v, z, ws) := by
  intro p l e R s m args below meth cc hE hC ls st μ c h H locs lsA cells slots Q hH hL hlo hc1 hc2 k
  obtain ⟨hx, hb, hown, hwd, hml, hlk, hrt, hfr, hlc, hW0, hs0, hsz, hin, htb⟩ := hC
  simp only [zok, Bool.and_eq_true, decide_eq_true_eq] at hO
  obtain ⟨hd, -, ht, hn⟩ := hO
  subst hn
  simp only [zstep] at h
  split at h
  · refine lv_icmp_ge hx hb (zdec hd) ht (fun hz => ?_) (fun hz => ?_)
    · rw [if_pos hz] at h
      cases h
      simp only [Nat.sub_self, Nat.add_zero] at k
      exact k H locs lsA hH hL hlo
    · rw [if_neg (by first | exact hz | exact fun q => q hz)] at h
      cases h
      simp only [Nat.sub_self, Nat.add_zero] at k
      exact k H locs lsA hH hL hlo
  · cases h
theorem zs_if_icmp_gt {D : va_G} {T : Nat → ClassId} {B0 de mi : Nat} {U0 : State} {y pc n x v z : Nat} {ws : List Nat} {off : Int} (hO : zok y (pc, (.if_icmp .gt off), n, x, v, z, ws) = true) : zGoal D T B0 de mi U0 y (pc, (.if_icmp .gt off), n, x, v, z, ws) := by
  intro p l e R s m args below meth cc hE hC ls st μ c h H locs lsA cells slots Q hH hL hlo hc1 hc2 k
  obtain ⟨hx, hb, hown, hwd, hml, hlk, hrt, hfr, hlc, hW0, hs0, hsz, hin, htb⟩ := hC
  simp only [zok, Bool.and_eq_true, decide_eq_true_eq] at hO
  obtain ⟨hd, -, ht, hn⟩ := hO
  subst hn
  simp only [zstep] at h
  split at h
  · refine lv_icmp_gt hx hb (zdec hd) ht (fun hz => ?_) (fun hz => ?_)
    · rw [if_pos hz] at h
      cases h
      simp only [Nat.sub_self, Nat.add_zero] at k
      exact k H locs lsA hH hL hlo
    · rw [if_neg (by first | exact hz | exact fun q => q hz)] at h
      cases h
      simp only [Nat.sub_self, Nat.add_zero] at k
      exact k H locs lsA hH hL hlo
  · cases h
theorem zs_if_icmp_le {D : va_G} {T : Nat → ClassId} {B0 de mi : Nat} {U0 : State} {y pc n x v z : Nat} {ws : List Nat} {off : Int} (hO : zok y (pc, (.if_icmp .le off), n, x, v, z, ws) = true) : zGoal D T B0 de mi U0 y (pc, (.if_icmp .le off), n, x, v, z, ws) := by
  intro p l e R s m args below meth cc hE hC ls st μ c h H locs lsA cells slots Q hH hL hlo hc1 hc2 k
  obtain ⟨hx, hb, hown, hwd, hml, hlk, hrt, hfr, hlc, hW0, hs0, hsz, hin, htb⟩ := hC
  simp only [zok, Bool.and_eq_true, decide_eq_true_eq] at hO
  obtain ⟨hd, -, ht, hn⟩ := hO
  subst hn
  simp only [zstep] at h
  split at h
  · refine lv_icmp_le hx hb (zdec hd) ht (fun hz => ?_) (fun hz => ?_)
    · rw [if_pos hz] at h
      cases h
      simp only [Nat.sub_self, Nat.add_zero] at k
      exact k H locs lsA hH hL hlo
    · rw [if_neg (by first | exact hz | exact fun q => q hz)] at h
      cases h
      simp only [Nat.sub_self, Nat.add_zero] at k
      exact k H locs lsA hH hL hlo
  · cases h
theorem zs_if_acmp_eq {D : va_G} {T : Nat → ClassId} {B0 de mi : Nat} {U0 : State} {y pc n x v z : Nat} {ws : List Nat} {off : Int} (hO : zok y (pc, (.if_acmp .eq off), n, x, v, z, ws) = true) : zGoal D T B0 de mi U0 y (pc, (.if_acmp .eq off), n, x, v, z, ws) := by
  intro p l e R s m args below meth cc hE hC ls st μ c h H locs lsA cells slots Q hH hL hlo hc1 hc2 k
  obtain ⟨hx, hb, hown, hwd, hml, hlk, hrt, hfr, hlc, hW0, hs0, hsz, hin, htb⟩ := hC
  simp only [zok, Bool.and_eq_true, decide_eq_true_eq] at hO
  obtain ⟨hd, -, ht, hn⟩ := hO
  subst hn
  simp only [zstep] at h
  split at h
  · split at h
    · next rv rw e1 e2 =>
      rw [zopt_rf e1, zopt_rf e2]
      refine lv_acmp_eq hx hb (zdec hd) ht (fun hz => ?_) (fun hz => ?_)
      · rw [if_pos hz] at h
        cases h
        simp only [Nat.sub_self, Nat.add_zero] at k
        exact k H locs lsA hH hL hlo
      · rw [if_neg (by first | exact hz | exact fun q => q hz)] at h
        cases h
        simp only [Nat.sub_self, Nat.add_zero] at k
        exact k H locs lsA hH hL hlo
    · cases h
  · cases h
theorem zs_if_acmp_ne {D : va_G} {T : Nat → ClassId} {B0 de mi : Nat} {U0 : State} {y pc n x v z : Nat} {ws : List Nat} {off : Int} (hO : zok y (pc, (.if_acmp .ne off), n, x, v, z, ws) = true) : zGoal D T B0 de mi U0 y (pc, (.if_acmp .ne off), n, x, v, z, ws) := by
  intro p l e R s m args below meth cc hE hC ls st μ c h H locs lsA cells slots Q hH hL hlo hc1 hc2 k
  obtain ⟨hx, hb, hown, hwd, hml, hlk, hrt, hfr, hlc, hW0, hs0, hsz, hin, htb⟩ := hC
  simp only [zok, Bool.and_eq_true, decide_eq_true_eq] at hO
  obtain ⟨hd, -, ht, hn⟩ := hO
  subst hn
  simp only [zstep] at h
  split at h
  · split at h
    · next rv rw e1 e2 =>
      rw [zopt_rf e1, zopt_rf e2]
      refine lv_acmp_ne hx hb (zdec hd) ht (fun hz => ?_) (fun hz => ?_)
      · rw [if_pos hz] at h
        cases h
        simp only [Nat.sub_self, Nat.add_zero] at k
        exact k H locs lsA hH hL hlo
      · rw [if_neg (by first | exact hz | exact fun q => q hz)] at h
        cases h
        simp only [Nat.sub_self, Nat.add_zero] at k
        exact k H locs lsA hH hL hlo
    · cases h
  · cases h
theorem zs_ifnull {D : va_G} {T : Nat → ClassId} {B0 de mi : Nat} {U0 : State} {y pc n x v z : Nat} {ws : List Nat} {off : Int} (hO : zok y (pc, (.ifnull off), n, x, v, z, ws) = true) : zGoal D T B0 de mi U0 y (pc, (.ifnull off), n, x, v, z, ws) := by
  intro p l e R s m args below meth cc hE hC ls st μ c h H locs lsA cells slots Q hH hL hlo hc1 hc2 k
  obtain ⟨hx, hb, hown, hwd, hml, hlk, hrt, hfr, hlc, hW0, hs0, hsz, hin, htb⟩ := hC
  simp only [zok, Bool.and_eq_true, decide_eq_true_eq] at hO
  obtain ⟨hd, -, ht, hn⟩ := hO
  subst hn
  simp only [zstep] at h
  split at h
  · cases h
    simp only [Nat.sub_self, Nat.add_zero] at k
    exact lv_ifnullN hx hb (zdec hd) ht (k H locs lsA hH hL hlo)
  · cases h
    simp only [Nat.sub_self, Nat.add_zero] at k
    exact lv_ifnull hx hb (zdec hd) (k H locs lsA hH hL hlo)
  · cases h
theorem zs_ifnonnull {D : va_G} {T : Nat → ClassId} {B0 de mi : Nat} {U0 : State} {y pc n x v z : Nat} {ws : List Nat} {off : Int} (hO : zok y (pc, (.ifnonnull off), n, x, v, z, ws) = true) : zGoal D T B0 de mi U0 y (pc, (.ifnonnull off), n, x, v, z, ws) := by
  intro p l e R s m args below meth cc hE hC ls st μ c h H locs lsA cells slots Q hH hL hlo hc1 hc2 k
  obtain ⟨hx, hb, hown, hwd, hml, hlk, hrt, hfr, hlc, hW0, hs0, hsz, hin, htb⟩ := hC
  simp only [zok, Bool.and_eq_true, decide_eq_true_eq] at hO
  obtain ⟨hd, -, ht, hn⟩ := hO
  subst hn
  simp only [zstep] at h
  split at h
  · cases h
    simp only [Nat.sub_self, Nat.add_zero] at k
    exact lv_ifnonnullN hx hb (zdec hd) (k H locs lsA hH hL hlo)
  · cases h
    simp only [Nat.sub_self, Nat.add_zero] at k
    exact lv_ifnonnull hx hb (zdec hd) ht (k H locs lsA hH hL hlo)
  · cases h
