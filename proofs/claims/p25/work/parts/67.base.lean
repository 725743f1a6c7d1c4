/-! ===== a hall among other cells: what the law holds between two calls ===== -/
theorem zMd0 {h : Nat} {μ : zM} : zMd h μ := fun a h1 h2 => by omega
def zHv (de h : Nat) (μ : zM) (σ : Nat → Nat → Int32) (n : Nat) : Prop := ∃ A K B V N, zHl' de h μ σ n A K B V N
def zMt (b h L : Nat) (xs : Nat → Int32) (cc ss : Nat) (μ : zM) : Prop := b < h ∧ zK μ b = (14, L) ∧ (∀ k, zI μ b k = xs k) ∧ zC μ ≤ cc ∧ zL μ ≤ ss
/-- the memory with the hall at h as the rows σ say; at most cc cells, ss slots used so far -/
def zS1 (b de h L : Nat) (xs : Nat → Int32) (σ : Nat → Nat → Int32) (n cc ss : Nat) (μ : zM) : Prop := zMt b h L xs cc ss μ ∧ zHv de h μ σ n ∧ zIA σ n ∧ zIB σ n
/-- the memory without a look at any hall -/
def zBg (b de L : Nat) (xs : Nat → Int32) (cc ss : Nat) (μ : zM) : Prop := (∀ a, zS μ ≤ a → zK μ a = (0, 0)) ∧ de < zS μ ∧ zK μ de = (15, 0) ∧ zSep de μ ∧ (∀ l e, (zK μ l).1 = 1 → zR μ l 1 = some e → e < zS μ) ∧ b < zS μ ∧ zK μ b = (14, L) ∧ (∀ k, zI μ b k = xs k) ∧ zC μ ≤ cc ∧ zL μ ≤ ss
section BASE
variable {b de h mi n n' L cc ss c s : Nat} {xs : Nat → Int32} {μ μ1 μ0 : zM} {σ σ' : Nat → Nat → Int32} {A K : Nat → Nat} {B : Nat → Nat → Nat} {V N : Nat → Nat} {Q : zRes → zM → Prop}
theorem zMt.kp (hz : h + 6 < zS μ) (mt : zMt b h L xs cc ss μ) (kp : zKp h c s μ μ1) : zMt b h L xs (cc + c) (ss + s) μ1 := by
  obtain ⟨hb, kb, ib, hC, hL⟩ := mt
  obtain ⟨p1, p2, p3, p4, p5, p6⟩ := kp
  exact ⟨hb, by rw [p2 _ (by omega)]; exact kb, fun k => by rw [(p3 b (Or.inl hb)).1]; exact ib k, by omega, by omega⟩
theorem zS1.thr (q : zS1 b de h L xs σ n cc ss μ) : zS1 b de h L xs σ n (cc + 1) (ss + 6) (znew μ 0 0 6) := by
  obtain ⟨mt, ⟨A, K, B, V, N, H⟩, ia, ib⟩ := q
  have hz := H.bs.2.2.2.2.2
  exact ⟨mt.kp hz (zKp.thr.resolve_right (by omega)), ⟨A, K, B, V, N, H.thr ia.w0.2 ia.w11 zMd0⟩, ia, ib⟩
theorem zS1.to (q : zS1 b de h L xs σ n cc ss μ) (kp : zKp h c s μ μ1) (H1 : zHl' de h μ1 σ' n' A K B V N) (ia : zIA σ' n') (ib : zIB σ' n') : zS1 b de h L xs σ' n' (cc + c) (ss + s) μ1 := by
  obtain ⟨mt, ⟨A0, K0, B0, V0, N0, H⟩, -, -⟩ := q
  exact ⟨mt.kp H.bs.2.2.2.2.2 kp, ⟨A, K, B, V, N, H1⟩, ia, ib⟩
theorem zS1.kh (q : zS1 b de h L xs σ n cc ss μ) : zK μ h = (7, 0) := by
  obtain ⟨mt, ⟨A, K, B, V, N, H⟩, ia, ib⟩ := q
  exact H.kh
theorem zS1.kb (q : zS1 b de h L xs σ n cc ss μ) : zK μ b = (14, L) ∧ ∀ k, zI μ b k = xs k := ⟨q.1.2.1, q.1.2.2.1⟩
theorem zS1.bg (q : zS1 b de h L xs σ n cc ss μ) : zBg b de L xs cc ss μ := by
  obtain ⟨⟨hb, kb, ib, hC, hL⟩, ⟨A, K, B, V, N, H⟩, -, -⟩ := q
  obtain ⟨b1, b2, b3, b4, b5, b6⟩ := H.bs
  exact ⟨b1, by omega, b3, b4, b5, by omega, kb, ib, hC, hL⟩
/-- the rows of a new hall -/
def zs0 (f k : Nat) : Int32 := if f = 13 ∧ k = 0 then -nI 1 else 0
theorem zs0_0 {f k : Nat} (h : f ≠ 13) : zs0 f k = 0 := if_neg (fun q => h q.1)
theorem zs0_IA : zIA zs0 0 := by
  have e : ∀ f k, f ≠ 13 → zs0 f k = nI 0 := fun f k hf => zs0_0 hf
  refine ⟨⟨e 0 0 (by decide), by decide⟩, ⟨fun k hk => absurd hk (Nat.not_lt_zero k), fun j hj => absurd hj (Nat.not_lt_zero j)⟩, fun j hj => absurd hj (Nat.not_lt_zero j), fun s _ => Or.inl (zs0_0 (by decide)), ⟨Or.inl (if_pos ⟨rfl, rfl⟩), 0, Nat.le_refl 0, e 14 0 (by decide)⟩, fun k hk => absurd hk (Nat.not_lt_zero k), ⟨fun k hk => absurd hk (Nat.not_lt_zero k), fun s s' _ _ q => absurd (zs0_0 (by decide)) q⟩, fun k _ => ⟨zs0_0 (by decide), zs0_0 (by decide)⟩, fun k hk => absurd hk (Nat.not_lt_zero k), ⟨fun k hk => absurd hk (Nat.not_lt_zero k), fun j hj => absurd hj (Nat.not_lt_zero j)⟩, fun k hk => absurd hk (Nat.not_lt_zero k), Nat.zero_le 8, fun i _ hi => absurd hi (Nat.not_lt_zero i), fun s _ => ⟨0, Nat.le_refl 0, e 12 s (by decide)⟩, fun k hk => absurd hk (Nat.not_lt_zero k)⟩
theorem zs0_IB : zIB zs0 0 := by
  have e : ∀ f k, f ≠ 13 → zs0 f k = nI 0 := fun f k hf => zs0_0 hf
  exact ⟨⟨0, by decide, e 17 0 (by decide), fun k hk => absurd hk (Nat.not_lt_zero k)⟩, ⟨0, by decide, e 16 0 (by decide)⟩, ⟨0, by decide, e 23 0 (by decide), fun k hk => absurd hk (Nat.not_lt_zero k)⟩, ⟨0, by decide, e 26 0 (by decide)⟩⟩
/-- a new hall, whatever lies there already -/
theorem zBg.new (bg : zBg b de L xs cc ss μ0) (eh : zS μ0 = h) (hq : ∀ μ, zS1 b de h L xs zs0 0 (cc + 7) (ss + 42) μ → Q (.inl none) μ) : zCall de mi 15 [.ref h] (znew μ0 7 0 6) Q := by
  obtain ⟨z0, hde, kde, sep, ed, hb, kb, ib, hC, hL⟩ := bg
  rw [eh] at z0 hde ed hb
  refine C15 (by rw [zS_new, eh]) (if_pos eh.symm) (fun a ha => (if_neg (by omega)).trans (z0 a (by omega))) (fun k => if_pos eh.symm) (fun μ s1 => hq μ ?_)
  obtain ⟨a1, a2, a3, a4, a5, a6, a7, a8, a9, a10, a11⟩ := s1
  have KA : ∀ a, a < h → zK μ a = zK μ0 a := fun a ha => (a2 a ha).1.trans (if_neg (by omega))
  have IA : ∀ a, a < h → zI μ a = zI μ0 a := fun a ha => by
    rw [(a2 a ha).2.1]; funext k; rw [zI_new, if_neg (by omega)]
  have RA : ∀ a, a < h → zR μ a = zR μ0 a := fun a ha => by
    rw [(a2 a ha).2.2]; funext k; rw [zR_new, if_neg (by omega)]
  have one : ∀ l, (zK μ l).1 = 1 → (l < h ∧ (zK μ0 l).1 = 1) ∨ zR μ l 1 = some de := by
    intro l q
    by_cases c1 : l < h
    · rw [KA l c1] at q; exact Or.inl ⟨c1, q⟩
    right
    by_cases d1 : l = h + 1
    · rw [d1]; exact a6.1
    by_cases d5 : l = h + 5
    · rw [d5]; exact a6.2.1
    by_cases d6 : l = h + 6
    · rw [d6]; exact a6.2.2
    exfalso
    have pt := a3
    unfold zPt at pt
    by_cases d0 : l = h
    · rw [d0, pt.1] at q; exact absurd q (by decide)
    by_cases d2 : l = h + 2
    · rw [d2, pt.2.2.2.2.2.1] at q; exact absurd q (by decide)
    by_cases d3 : l = h + 3
    · rw [d3, pt.2.2.2.2.2.2.2.2.1] at q; exact absurd q (by decide)
    by_cases d4 : l = h + 4
    · rw [d4, pt.2.2.2.2.2.2.2.2.2] at q; exact absurd q (by decide)
    rw [a5 l (by omega)] at q; exact absurd q (by decide)
  have bs : zBs de h μ := by
    refine ⟨fun a ha => a5 a (by omega), hde, by rw [KA de hde]; exact kde, fun l l' e q1 q2 q3 q4 => ?_, fun l e q1 q3 => ?_, by omega⟩
    · rcases one l q1 with ⟨r1, r2⟩ | r
      · rcases one l' q2 with ⟨r3, r4⟩ | r'
        · rw [RA l r1] at q3
          rw [RA l' r3] at q4
          exact sep l l' e r2 r4 q3 q4
        · rw [r'] at q4; cases q4; exact Or.inr rfl
      · rw [r] at q3; cases q3; exact Or.inr rfl
    · rcases one l q1 with ⟨r1, r2⟩ | r
      · rw [RA l r1] at q3
        have := ed l e r2 q3
        omega
      · rw [r] at q3; cases q3; omega
  have lv : ∀ l t f, zK μ l = (1, 0) → zR μ l 1 = some de → zI μ l 2 = 0 → 1 ≤ t → t ≤ 8 → zLv de h μ l t 0 f := fun l t f q1 q9 q2 q3 q4 => ⟨q1, q2, ⟨de, q9, Or.inl ⟨rfl, rfl⟩, fun k hk => absurd hk (Nat.not_lt_zero k)⟩, fun k hk => absurd hk (Nat.not_lt_zero k), q3, q4⟩
  have nw : znw zs0 = 0 := by unfold znw; rw [zs0_0 (by decide)]; decide
  have ns : zns zs0 = 0 := by unfold zns; rw [zs0_0 (by decide)]; decide
  have H : zHl' de h μ zs0 0 (fun _ => 0) (fun _ => 0) (fun _ _ => 0) (fun _ => 0) (fun _ => 0) := by
    refine ⟨bs, a3, ⟨lv _ _ _ a4.1 a6.1 a8.1 (by decide) (by decide), by rw [nw]; exact lv _ _ _ a4.2.1 a6.2.1 a8.2.1 (by decide) (by decide), by rw [ns]; exact lv _ _ _ a4.2.2 a6.2.2 a8.2.2.1 (by decide) (by decide), fun k hk => absurd hk (Nat.not_lt_zero k), fun i j hi => absurd hi (Nat.not_lt_zero i), fun i j hi => absurd hi (Nat.not_lt_zero i)⟩, fun k hk => absurd hk (Nat.not_lt_zero k), fun k hk => by rw [nw] at hk; exact absurd hk (Nat.not_lt_zero k), fun k hk => by rw [ns] at hk; exact absurd hk (Nat.not_lt_zero k), ⟨fun s hs => ⟨?_, ?_⟩, ?_⟩, ⟨?_, ?_⟩, fun k hk => absurd hk (Nat.not_lt_zero k), fun s hs h0 => absurd (zs0_0 (by decide)) h0⟩
    · rw [zs0_0 (by decide)]; exact a9 s
    · rw [zs0_0 (by decide), if_pos rfl]; exact a7 s
    · have : zs0 13 0 = -nI 1 := if_pos ⟨rfl, rfl⟩
      rw [this, if_pos n1neg]; exact a8.2.2.2.2.2
    · rw [zs0_0 (by decide)]; exact a8.2.2.2.1
    · rw [zs0_0 (by decide)]; exact a8.2.2.2.2.1
  refine ⟨⟨hb, by rw [KA b hb]; exact kb, fun k => by rw [IA b hb]; exact ib k, ?_, ?_⟩, ⟨_, _, _, _, _, H⟩, zs0_IA, zs0_IB⟩
  · rw [zC_new] at a10; omega
  · rw [zL_new] at a11; omega
end BASE
