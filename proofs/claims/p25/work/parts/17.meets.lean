/-! ===== the run is the machine's, second part ===== -/
theorem zbody_big : ∀ y, 79 ≤ y → zbody y = [] := fun y h => by
  obtain ⟨k, rfl⟩ := Nat.exists_eq_add_of_le h
  rw [Nat.add_comm]
  rfl
theorem zcode_lt {y pc : Nat} {o : zOp} (h : zcode y pc = some o) : y < 79 := by
  rcases Nat.lt_or_ge y 79 with h1 | h1
  · exact h1
  · unfold zcode at h
    rw [zbody_big y h1] at h
    cases h
/-- what is known of texts and of the three exceptions -/
def zEnvX (U0 : State) : Prop := (∀ own k tx, Cond.stringRef own k tx ∈ lw_tbl → ∃ sa, vk_R own k tx sa U0) ∧ ∀ i j, i < 3 → j < 3 → i ≠ j → va_Nc (zEx i) (zEx j) U0
def zPc (D : va_G) (T : Nat → ClassId) (B0 : Nat) (U0 : State) (as : List Value) (μ : zM) : Array Value → State → Prop := fun v U => v = as.toArray ∧ U0.WarmedH U.vm ∧ zHp D T B0 U0 μ U.heap
def zQc (D : va_G) (T : Nat → ClassId) (B0 : Nat) (U0 : State) (r : zRes) (μ' : zM) : Array Value → State → Outcome → State → Prop := fun _ _ o t => ∃ v : Option Value, r = .inl v ∧ o = .returned v ∧ zHp D T B0 U0 μ' t.heap
def zXc (D : va_G) (T : Nat → ClassId) (B0 : Nat) (U0 : State) (r : zRes) (μ' : zM) : String → State → State → Prop := fun E _ t => ∃ k, k < 3 ∧ r = .inr k ∧ E = zEx k ∧ zHp D T B0 U0 μ' t.heap
/-- a run of method y, as a contract -/
def zMet (D : va_G) (T : Nat → ClassId) (B0 : Nat) (U0 : State) (l : Launch) (y : Nat) (as : List Value) (μ : zM) (r : zRes) (μ' : zM) : Prop :=
  vx_Met l (zNm y) (zWs y) { frames := zFr y, cells := zC μ' - zC μ, slots := zL μ' - zL μ, locals := zLo y } (zPc D T B0 U0 as μ) (zQc D T B0 U0 r μ') (zXc D T B0 U0 r μ') (zC μ' - zC μ) (zL μ' - zL μ) (fun q => B0 ≤ q)
theorem zblind {D : va_G} {T : Nat → ClassId} {B0 : Nat} {U0 : State} {as : List Value} {μ : zM} : FrameBlind (zPc D T B0 U0 as μ) := fun _ _ _ _ h => h
theorem zwsgood {y : Nat} {args : Array Value} {s : State} (hwd : ∀ w ∈ zBig, w.before args s = true) (hc : (if zTb y = [] then Cond.code (zNm y) (zB y) (zX y) (zRt y) else Cond.codeWith (zNm y) (zB y) (zX y) (zRt y) (zTb y)) ∈ zBig) : ∀ w ∈ zWs y, ∀ (a' : Array Value) (U : State), s.WarmedH U.vm → w.before a' U = true := by
  intro w hw a' U hW
  have hb : w ∈ zBig := by
    rcases List.mem_cons.mp hw with h | h
    · rw [h]; exact hc
    · exact h
  exact word_at hW (good_of_word (List.mem_filter.mp hb).2) (hwd w hb)
/-- the entry's locals -/
theorem zsl : ∀ (vs : List Value), (∀ v ∈ vs, v.category = 1) → lg_sl vs = vs.map Slot.val
  | [], _ => rfl
  | v :: t, h => by
    have h1 := h v List.mem_cons_self
    have h2 := zsl t (fun w hw => h w (List.mem_cons_of_mem _ hw))
    unfold lg_sl at h2 ⊢
    rw [List.flatMap_cons, h2, if_neg (by omega)]
    rfl
theorem zargs_at : ∀ (vs : List Value) (i0 : Nat), (∀ v ∈ vs, v.category = 1) → ∀ (i : Nat) (v : Value), vs[i]? = some v → (i0 + i, v) ∈ lv_args i0 vs
  | [], _, _, i, v, h => by simp at h
  | w :: t, i0, hc, i, v, h => by
    have h1 := hc w List.mem_cons_self
    unfold lv_args
    rw [if_neg (by omega)]
    cases i with
    | zero => rw [List.getElem?_cons_zero] at h; cases h; exact List.mem_cons_self
    | succ i =>
      rw [List.getElem?_cons_succ] at h
      have := zargs_at t (i0 + 1) (fun w hw => hc w (List.mem_cons_of_mem _ hw)) i v h
      rw [show i0 + (i + 1) = i0 + 1 + i by omega]
      exact List.mem_cons_of_mem _ this
theorem zentry {vs : List Value} {n : Nat} (hc : ∀ v ∈ vs, v.category = 1) (hl : vs.length ≤ n) : zlv ((lg_sl vs ++ List.replicate (n - (lg_sl vs).length) Slot.unset).toArray) n (zent n vs) := by
  have h0 := zsl vs hc
  have hlen : (lg_sl vs).length = vs.length := by rw [h0, List.length_map]
  have h := lv_entry vs (n := n) (by omega)
  refine ⟨h.1, h.2.1, by unfold zent; rw [List.length_append, List.length_map, List.length_replicate]; omega, fun i v hi => ?_⟩
  have hv : vs[i]? = some v := by
    unfold zent at hi
    by_cases hlt : i < vs.length
    · rw [List.getElem?_append_left (by rw [List.length_map]; exact hlt), List.getElem?_map] at hi
      cases hw : vs[i]? with
      | none => rw [hw] at hi; cases hi
      | some w => rw [hw] at hi; cases hi; rfl
    · rw [List.getElem?_append_right (by rw [List.length_map]; omega), List.length_map] at hi
      have := List.mem_of_getElem? hi
      have := List.eq_of_mem_replicate this
      cases this
  have hm := zargs_at vs 0 hc i v hv
  rw [Nat.zero_add] at hm
  exact ⟨h.2.2 (i, v) hm, hc v (List.mem_of_getElem? hv)⟩
/-- what zargs says -/
theorem zargs_ok {o : zOp} {st as rest : List Value} {μ : zM} (h : zargs o st μ = some (as, rest)) : st = as.reverse ++ rest ∧ as.length = o.2.2.2.2.1 ∧ rest.length ≤ 4 ∧ (∀ v ∈ as, v.category = 1) ∧
    (o.2.2.2.2.2.1 = 100 → ∃ b as', as = .ref b :: as' ∧ zK μ b = (o.2.2.2.2.2.2.getD 0 0 + 1, 0)) ∧ (o.2.2.2.2.2.1 = 101 → ∃ b as', as = .ref b :: as') := by
  unfold zargs at h
  simp only at h
  split at h
  · cases h
  · next hn =>
    have h1 : o.2.2.2.2.1 ≤ st.length := Nat.le_of_not_lt fun q => hn (Or.inl q)
    have h2 : st.length ≤ 4 + o.2.2.2.2.1 := Nat.le_of_not_lt fun q => hn (Or.inr (Or.inl q))
    have h3 : (st.take o.2.2.2.2.1).all (fun v => v.category == 1) = true := by
      cases hq : (st.take o.2.2.2.2.1).all (fun v => v.category == 1)
      · exact absurd (Or.inr (Or.inr hq)) hn
      · rfl
    have h4 : ∀ v ∈ (st.take o.2.2.2.2.1).reverse, v.category = 1 := fun v hv => by
      have := List.all_eq_true.mp h3 v (List.mem_reverse.mp hv)
      simpa using this
    have h5 : st = (st.take o.2.2.2.2.1).reverse.reverse ++ st.drop o.2.2.2.2.1 := by rw [List.reverse_reverse, List.take_append_drop]
    have h6 : (st.take o.2.2.2.2.1).reverse.length = o.2.2.2.2.1 := by rw [List.length_reverse, List.length_take]; omega
    have h7 : (st.drop o.2.2.2.2.1).length ≤ 4 := by rw [List.length_drop]; omega
    split at h
    · next hz =>
      split at h
      · next b as' hb =>
        split at h
        · next hk =>
          cases h
          rw [hb] at h4 h5 h6
          exact ⟨h5, h6, h7, h4, fun _ => ⟨b, as', rfl, hk⟩, fun e => by omega⟩
        · cases h
      · cases h
    · next hz =>
      split at h
      · next hz1 =>
        split at h
        · next b as' hb =>
          cases h
          rw [hb] at h4 h5 h6
          exact ⟨h5, h6, h7, h4, fun e => absurd e hz, fun _ => ⟨b, as', rfl⟩⟩
        · cases h
      · next hz1 =>
        cases h
        exact ⟨h5, h6, h7, h4, fun e => absurd e hz, fun e => absurd e hz1⟩
theorem zPre {D : va_G} {T : Nat → ClassId} {B0 de mi : Nat} {U0 : State} {y : Nat} {p : Program} {l : Launch} {R : Room} {s : State} {m : MethodId} {args : Array Value} {meth : Method} {c : Code} (hC : zCtx D T B0 de mi U0 y p l R s m args meth c) {H : Heap} {μ : zM} {as : List Value} (hH : zHp D T B0 U0 μ H) : PreS s H (zPc D T B0 U0 as μ) as :=
  ⟨zblind, fun U hU hW => ⟨rfl, State.WarmedH.trans hC.2.2.2.2.2.2.2.2.2.1 hW, by rw [hU]; exact hH⟩⟩
/-- a call at o, whose callee's run is known as a contract -/
theorem zcall {D : va_G} {T : Nat → ClassId} {B0 de mi : Nat} {U0 : State} {y : Nat} {p : Program} {l : Launch} {e : Env} {R : Room} {s : State} {m : MethodId} {args : Array Value} {below : List Frame} {meth : Method} {cc : Code} {H : Heap} {locs : List Loc} {lsA : Array Slot} {cells slots : Nat} {o : zOp} {st as rest : List Value} {μ μ1 : zM} {r1 : zRes}
    (hE : zEnv D T B0 de mi U0 l) (hC : zCtx D T B0 de mi U0 y p l R s m args meth cc) (hO : zok y o = true) (hs : zsort o = 2) (ha : zargs o st μ = some (as, rest)) (hH : zHp D T B0 U0 μ H) (hL : lsA.size = zX y)
    (hM : zMet D T B0 U0 l o.2.2.2.1 as μ r1 μ1) (hc1 : cells + (zC μ1 - zC μ) ≤ R.cells) (hc2 : slots + (zL μ1 - zL μ) ≤ R.slots) :
    o.2.2.1 = o.1 + 3 ∧ vx_Run p l e R s m args below meth cc H locs cells slots (zC μ1 - zC μ) (zL μ1 - zL μ) (F0 m o.1 lsA st) rest (zQc D T B0 U0 r1 μ1 as.toArray) (zXc D T B0 U0 r1 μ1) (fun q => B0 ≤ q) := by
  obtain ⟨hst, hlen, hr4, hcat, hz100, hz101⟩ := zargs_ok ha
  have hPS := zPre hC hH (as := as)
  obtain ⟨hx, hb, hown, hwd, hml, hlk, hrt, hfr, hlc, hW0, hs0, hsz, hin, htb⟩ := id hC
  have hK := va_K.moved hW0.alike hE.1
  obtain ⟨pc, i, n, x, v, z, ws⟩ := o
  have hsum := zsum hr4
  have hroom : 2 * (F0 m pc lsA st).monitorRoom + (rest.map fun v => v.category).sum ≤ 8 := lv_room hsum
  have hin' : ∀ w, w ∈ zBig → w.before args s = true := hwd
  cases i
  case invokevirtual i =>
    have hz : z = 100 := by
      by_cases h : z = 100
      · exact h
      · simp [zsort, h] at hs
    simp only [zok, Bool.and_eq_true, decide_eq_true_eq] at hO
    obtain ⟨hd, -, hn, hO⟩ := hO
    subst hn
    rw [if_pos hz] at hO
    simp only [Bool.and_eq_true, decide_eq_true_eq] at hO
    obtain ⟨hrc, hrn, w1, w2, w3, w4, w5, htx, hno, hpar, hv1, hvx, hf1, hf2⟩ := hO
    obtain ⟨b, as', rfl, hkb⟩ := hz100 hz
    obtain ⟨cell, g1, g2, g3⟩ := zcls hK hH hrc hkb
    have hcode : (if zTb x = [] then Cond.code (zNm x) (zB x) (zX x) (zRt x) else Cond.codeWith (zNm x) (zB x) (zX x) (zRt x) (zTb x)) ∈ zBig := by rw [if_pos htx]; exact zhasc_in w4
    refine ⟨rfl, vx_runV (Ts := zBig) (own := zOwn y) (C := zRC (zgi ws 0)) (b := b) (As := as') ⟨hx, hb, hml, hown, hwd⟩ hM
      ⟨⟨rfl, rfl, by show zFr x + 1 ≤ _; omega, by show 8 + (zX x + 11) + zLo x ≤ _; omega, zwsgood hwd hcode, by unfold zWs; rw [if_pos htx]; exact List.mem_cons_self, hwd _ (zhasc_in w4), hwd _ (zhas_in w5), hno, fun sig h => ?_, hwd _ (zhas_in w1)⟩, hwd _ (zhas_in w2), hwd _ (zhas_in w3)⟩
      ⟨zblind, ⟨cell, g1, g2, g3⟩, hPS.2⟩ rfl rfl hL (by rw [hst, List.reverse_cons, List.append_assoc]; rfl) hroom (zdec hd) ⟨hc1, hc2⟩⟩
    rw [h] at hpar
    have hp9 : sig.parameters.length = v - 1 := Option.some.inj hpar
    have hlen' : as'.length + 1 = v := hlen
    omega
  case invokespecial i =>
    have hz : z = 101 := by
      by_cases h : z = 101
      · exact h
      · simp [zsort, h] at hs
    simp only [zok, Bool.and_eq_true, decide_eq_true_eq] at hO
    obtain ⟨hd, -, hn, hO⟩ := hO
    subst hn
    rw [if_pos hz] at hO
    simp only [Bool.and_eq_true, decide_eq_true_eq] at hO
    obtain ⟨w1, w2, w4, w5, htx, hini, hrx, hno, hpar, hv1, hvx, hf1, hf2⟩ := hO
    obtain ⟨b, as', rfl⟩ := hz101 hz
    have hcode : (if zTb x = [] then Cond.code (zNm x) (zB x) (zX x) (zRt x) else Cond.codeWith (zNm x) (zB x) (zX x) (zRt x) (zTb x)) ∈ zBig := by rw [if_pos htx]; exact zhasc_in w4
    have w4' := zhasc_in w4
    rw [hrx] at w4'
    refine ⟨rfl, vx_runI (Ts := zBig) (own := zOwn y) (b := b) (As := as') (bytes := zB x) (maxL := zX x) ⟨hx, hb, hml, hown, hwd⟩ hM
      ⟨⟨rfl, rfl, by show zFr x + 1 ≤ _; omega, by show 8 + (zX x + 11) + zLo x ≤ _; omega, zwsgood hwd hcode, by unfold zWs; rw [if_pos htx, hrx]; exact List.mem_cons_self, hwd _ w4', hwd _ (zhas_in w5), hno, fun sig h => ?_, hwd _ (zhas_in w1)⟩, hini, hwd _ (zhas_in w2)⟩
      hPS rfl rfl hL (by rw [hst, List.reverse_cons, List.append_assoc]; rfl) hroom (zdec hd) ⟨hc1, hc2⟩⟩
    rw [h] at hpar
    have hp9 : sig.parameters.length = v - 1 := Option.some.inj hpar
    have hlen' : as'.length + 1 = v := hlen
    omega
  case invokestatic i =>
    have hz : z = 102 ∨ z = 103 ∨ z = 104 := by
      by_cases h : z = 102 ∨ z = 103 ∨ z = 104
      · exact h
      · simp [zsort, h] at hs
    simp only [zok, Bool.and_eq_true, decide_eq_true_eq] at hO
    obtain ⟨hd, -, hn, hO⟩ := hO
    subst hn
    rw [if_pos hz] at hO
    simp only [Bool.and_eq_true, decide_eq_true_eq] at hO
    obtain ⟨w1, w2, w4, w5, hno, hpar, hvx, hf1, hf2⟩ := hO
    have hpar' : ∀ sig, parseMethodDescriptor (zNm x).desc = some sig → v = sig.parameters.length := fun sig h => by
      rw [h] at hpar
      exact (Option.some.inj hpar).symm
    refine ⟨rfl, ?_⟩
    by_cases h104 : z = 104
    · rw [if_neg (by omega)] at w1
      rw [if_pos h104, Bool.and_eq_true, decide_eq_true_eq] at w4
      obtain ⟨w4, htx⟩ := w4
      have hcode : (if zTb x = [] then Cond.code (zNm x) (zB x) (zX x) (zRt x) else Cond.codeWith (zNm x) (zB x) (zX x) (zRt x) (zTb x)) ∈ zBig := by rw [if_neg htx]; exact zhas_in w4
      exact vx_runSX (Ts := zBig) (own := zOwn y) (As := as) (n := v) (hh := zTb x) ⟨hx, hb, hml, hown, hwd⟩ hM
        ⟨⟨rfl, rfl, by show zFr x + 1 ≤ _; omega, by show 8 + (zX x + 11) + zLo x ≤ _; omega, zwsgood hwd hcode, by unfold zWs; rw [if_neg htx]; exact List.mem_cons_self⟩, hwd _ (zhas_in w4), hwd _ (zhas_in w5), hno, hpar', hwd _ (zhas_in w1), hwd _ (zhas_in w2)⟩
        hPS rfl hlen hL hst hroom (zdec hd) ⟨hc1, hc2⟩
    · rw [if_neg h104, Bool.and_eq_true, decide_eq_true_eq] at w4
      obtain ⟨w4, htx⟩ := w4
      have hcode : (if zTb x = [] then Cond.code (zNm x) (zB x) (zX x) (zRt x) else Cond.codeWith (zNm x) (zB x) (zX x) (zRt x) (zTb x)) ∈ zBig := by rw [if_pos htx]; exact zhasc_in w4
      by_cases h103 : z = 103
      · rw [if_pos h103] at w1
        obtain ⟨a0, ha0⟩ := hE.2.2.1
        have hl : (Cond.methodLinkNest (zOwn y) i (zNm x) RX5).before args s = true := va_Nw.use rfl (va_Nw.warmM hW0 (va_Nw.of rfl (ha0 _ (zmem_in w1))))
        exact vx_runSN (Ts := zBig) (own := zOwn y) (As := as) (n := v) (host := RX5) ⟨hx, hb, hml, hown, hwd⟩ hM
          ⟨⟨⟨rfl, rfl, by show zFr x + 1 ≤ _; omega, by show 8 + (zX x + 11) + zLo x ≤ _; omega, zwsgood hwd hcode, by unfold zWs; rw [if_pos htx]; exact List.mem_cons_self⟩, hwd _ (zhasc_in w4), hwd _ (zhas_in w5), hno, hpar', hl⟩, hwd _ (zhas_in w2), trivial⟩
          hPS rfl hlen hL hst hroom (zdec hd) ⟨hc1, hc2⟩
      · rw [if_neg h103] at w1
        exact vx_runS (Ts := zBig) (own := zOwn y) (As := as) (n := v) ⟨hx, hb, hml, hown, hwd⟩ hM
          ⟨⟨rfl, rfl, by show zFr x + 1 ≤ _; omega, by show 8 + (zX x + 11) + zLo x ≤ _; omega, zwsgood hwd hcode, by unfold zWs; rw [if_pos htx]; exact List.mem_cons_self, hwd _ (zhasc_in w4), hwd _ (zhas_in w5), hno, hpar', hwd _ (zhas_in w1)⟩, hwd _ (zhas_in w2)⟩
          hPS rfl hlen hL hst hroom (zdec hd) ⟨hc1, hc2⟩
  case new i =>
    exact absurd hs (by simp only [zsort]; split <;> decide)
  all_goals (simp [zsort] at hs)
