/-! ===== equations for simp: one an instruction kind ===== -/
section EQS
variable {de mi y : Nat} {Q : zRes → zM → Prop} {L : List zOp} {p pc n x v z : Nat} {ws : List Nat} {ls : List (Option Value)} {r : List Value} {μ : zM}
theorem zcat_ref (b : Nat) : (Value.ref b).category = 1 := rfl
theorem zcat_int (b : Int32) : (Value.int b).category = 1 := rfl
theorem zcat_null : (Value.null).category = 1 := rfl
theorem zcat_rf (b : Option Nat) : (va_rf b).category = 1 := by cases b <;> rfl
theorem zq_if {c : Prop} [Decidable c] {a : zCf} {n : Nat} {A : zCf → Prop} {B : zCf → Prop} (hn : a.1 = n) : (match (if c then some a else none : Option zCf) with | none => False | some q => if q.1 = n then A q else B q) = (c ∧ A a) := by
  by_cases h : c
  · rw [if_pos h]; simp only [hn, if_true, h, true_and]
  · rw [if_neg h]; simp only [h, false_and]
theorem e_null : zx de mi y Q ((pc, .aconst_null, n, x, v, z, ws) :: L) p ls (r) μ = zx de mi y Q L n ls (.null :: r) μ := if_pos rfl
theorem e_iconst {i : Int} : zx de mi y Q ((pc, (.iconst i), n, x, v, z, ws) :: L) p ls (r) μ = zx de mi y Q L n ls (.int (zcst z x) :: r) μ := if_pos rfl
theorem e_bipush {i : Int} : zx de mi y Q ((pc, (.bipush i), n, x, v, z, ws) :: L) p ls (r) μ = zx de mi y Q L n ls (.int (zcst z x) :: r) μ := if_pos rfl
theorem e_sipush {i : Int} : zx de mi y Q ((pc, (.sipush i), n, x, v, z, ws) :: L) p ls (r) μ = zx de mi y Q L n ls (.int (zcst z x) :: r) μ := if_pos rfl
theorem e_iload_n {k : Fin 4} {w : Int32} (h : zld ls x = some (.int w)) : zx de mi y Q ((pc, (.iload_n k), n, x, v, z, ws) :: L) p ls r μ = zx de mi y Q L n ls (.int w :: r) μ := by
  have e : zstep de mi (pc, (.iload_n k), n, x, v, z, ws) ls r μ = some (n, ls, .int w :: r, μ) := by simp only [zstep, h]
  show (match zstep de mi (pc, (.iload_n k), n, x, v, z, ws) ls r μ with | none => False | some c => if c.1 = n then zx de mi y Q L c.1 c.2.1 c.2.2.1 c.2.2.2 else zH de mi y c.1 c.2.1 c.2.2.1 c.2.2.2 Q) = _
  rw [e]
  exact if_pos rfl
theorem e_iload {k : Nat} {w : Int32} (h : zld ls x = some (.int w)) : zx de mi y Q ((pc, (.iload k), n, x, v, z, ws) :: L) p ls r μ = zx de mi y Q L n ls (.int w :: r) μ := by
  have e : zstep de mi (pc, (.iload k), n, x, v, z, ws) ls r μ = some (n, ls, .int w :: r, μ) := by simp only [zstep, h]
  show (match zstep de mi (pc, (.iload k), n, x, v, z, ws) ls r μ with | none => False | some c => if c.1 = n then zx de mi y Q L c.1 c.2.1 c.2.2.1 c.2.2.2 else zH de mi y c.1 c.2.1 c.2.2.1 c.2.2.2 Q) = _
  rw [e]
  exact if_pos rfl
theorem e_aload_n {k : Fin 4} {w : Nat} (h : zld ls x = some (.ref w)) : zx de mi y Q ((pc, (.aload_n k), n, x, v, z, ws) :: L) p ls r μ = zx de mi y Q L n ls (.ref w :: r) μ := by
  have e : zstep de mi (pc, (.aload_n k), n, x, v, z, ws) ls r μ = some (n, ls, .ref w :: r, μ) := by simp only [zstep, h]
  show (match zstep de mi (pc, (.aload_n k), n, x, v, z, ws) ls r μ with | none => False | some c => if c.1 = n then zx de mi y Q L c.1 c.2.1 c.2.2.1 c.2.2.2 else zH de mi y c.1 c.2.1 c.2.2.1 c.2.2.2 Q) = _
  rw [e]
  exact if_pos rfl
theorem e_aload_nN {k : Fin 4} (h : zld ls x = some (.null)) : zx de mi y Q ((pc, (.aload_n k), n, x, v, z, ws) :: L) p ls r μ = zx de mi y Q L n ls (.null :: r) μ := by
  have e : zstep de mi (pc, (.aload_n k), n, x, v, z, ws) ls r μ = some (n, ls, .null :: r, μ) := by simp only [zstep, h]
  show (match zstep de mi (pc, (.aload_n k), n, x, v, z, ws) ls r μ with | none => False | some c => if c.1 = n then zx de mi y Q L c.1 c.2.1 c.2.2.1 c.2.2.2 else zH de mi y c.1 c.2.1 c.2.2.1 c.2.2.2 Q) = _
  rw [e]
  exact if_pos rfl
theorem e_aload {k : Nat} {w : Nat} (h : zld ls x = some (.ref w)) : zx de mi y Q ((pc, (.aload k), n, x, v, z, ws) :: L) p ls r μ = zx de mi y Q L n ls (.ref w :: r) μ := by
  have e : zstep de mi (pc, (.aload k), n, x, v, z, ws) ls r μ = some (n, ls, .ref w :: r, μ) := by simp only [zstep, h]
  show (match zstep de mi (pc, (.aload k), n, x, v, z, ws) ls r μ with | none => False | some c => if c.1 = n then zx de mi y Q L c.1 c.2.1 c.2.2.1 c.2.2.2 else zH de mi y c.1 c.2.1 c.2.2.1 c.2.2.2 Q) = _
  rw [e]
  exact if_pos rfl
theorem e_aloadN {k : Nat} (h : zld ls x = some (.null)) : zx de mi y Q ((pc, (.aload k), n, x, v, z, ws) :: L) p ls r μ = zx de mi y Q L n ls (.null :: r) μ := by
  have e : zstep de mi (pc, (.aload k), n, x, v, z, ws) ls r μ = some (n, ls, .null :: r, μ) := by simp only [zstep, h]
  show (match zstep de mi (pc, (.aload k), n, x, v, z, ws) ls r μ with | none => False | some c => if c.1 = n then zx de mi y Q L c.1 c.2.1 c.2.2.1 c.2.2.2 else zH de mi y c.1 c.2.1 c.2.2.1 c.2.2.2 Q) = _
  rw [e]
  exact if_pos rfl
theorem e_istore_n {k : Fin 4} {w : Int32} : zx de mi y Q ((pc, (.istore_n k), n, x, v, z, ws) :: L) p ls (.int w :: r) μ = (x < ls.length ∧ zx de mi y Q L n (ls.set x (some (.int w))) (r) μ) := zq_if rfl
theorem e_istore {k : Nat} {w : Int32} : zx de mi y Q ((pc, (.istore k), n, x, v, z, ws) :: L) p ls (.int w :: r) μ = (x < ls.length ∧ zx de mi y Q L n (ls.set x (some (.int w))) (r) μ) := zq_if rfl
theorem e_astore_n {k : Fin 4} {w : Nat} : zx de mi y Q ((pc, (.astore_n k), n, x, v, z, ws) :: L) p ls (.ref w :: r) μ = (x < ls.length ∧ zx de mi y Q L n (ls.set x (some (.ref w))) (r) μ) := zq_if rfl
theorem e_astore_nN {k : Fin 4} : zx de mi y Q ((pc, (.astore_n k), n, x, v, z, ws) :: L) p ls (.null :: r) μ = (x < ls.length ∧ zx de mi y Q L n (ls.set x (some .null)) (r) μ) := zq_if rfl
theorem e_astore {k : Nat} {w : Nat} : zx de mi y Q ((pc, (.astore k), n, x, v, z, ws) :: L) p ls (.ref w :: r) μ = (x < ls.length ∧ zx de mi y Q L n (ls.set x (some (.ref w))) (r) μ) := zq_if rfl
theorem e_astoreN {k : Nat} : zx de mi y Q ((pc, (.astore k), n, x, v, z, ws) :: L) p ls (.null :: r) μ = (x < ls.length ∧ zx de mi y Q L n (ls.set x (some .null)) (r) μ) := zq_if rfl
theorem e_iinc {k : Nat} {i : Int} {w : Int32} (h : zld ls x = some (.int w)) : zx de mi y Q ((pc, .iinc k i, n, x, v, z, ws) :: L) p ls r μ = (x < ls.length ∧ zx de mi y Q L n (ls.set x (some (.int (w + zcst z v)))) r μ) := by
  have e : zstep de mi (pc, .iinc k i, n, x, v, z, ws) ls r μ = if x < ls.length then some (n, ls.set x (some (.int (w + zcst z v))), r, μ) else none := by simp only [zstep, h]
  show (match zstep de mi (pc, .iinc k i, n, x, v, z, ws) ls r μ with | none => False | some c => if c.1 = n then zx de mi y Q L c.1 c.2.1 c.2.2.1 c.2.2.2 else zH de mi y c.1 c.2.1 c.2.2.1 c.2.2.2 Q) = _
  rw [e]
  exact zq_if rfl
theorem e_iadd {a w : Int32} : zx de mi y Q ((pc, .iadd, n, x, v, z, ws) :: L) p ls (.int w :: .int a :: r) μ = zx de mi y Q L n ls (.int (a + w) :: r) μ := if_pos rfl
theorem e_isub {a w : Int32} : zx de mi y Q ((pc, .isub, n, x, v, z, ws) :: L) p ls (.int w :: .int a :: r) μ = zx de mi y Q L n ls (.int (a - w) :: r) μ := if_pos rfl
theorem e_imul {a w : Int32} : zx de mi y Q ((pc, .imul, n, x, v, z, ws) :: L) p ls (.int w :: .int a :: r) μ = zx de mi y Q L n ls (.int (a * w) :: r) μ := if_pos rfl
theorem e_iand {a w : Int32} : zx de mi y Q ((pc, .iand, n, x, v, z, ws) :: L) p ls (.int w :: .int a :: r) μ = zx de mi y Q L n ls (.int (a &&& w) :: r) μ := if_pos rfl
theorem e_ior {a w : Int32} : zx de mi y Q ((pc, .ior, n, x, v, z, ws) :: L) p ls (.int w :: .int a :: r) μ = zx de mi y Q L n ls (.int (a ||| w) :: r) μ := if_pos rfl
theorem e_ishl {a w : Int32} : zx de mi y Q ((pc, .ishl, n, x, v, z, ws) :: L) p ls (.int w :: .int a :: r) μ = zx de mi y Q L n ls (.int (a <<< (w &&& 31)) :: r) μ := if_pos rfl
theorem e_ishr {a w : Int32} : zx de mi y Q ((pc, .ishr, n, x, v, z, ws) :: L) p ls (.int w :: .int a :: r) μ = zx de mi y Q L n ls (.int (a >>> (w &&& 31)) :: r) μ := if_pos rfl
theorem zq_ifn {c : Prop} [Decidable c] {a : zCf} {n : Nat} {A : zCf → Prop} {B : zCf → Prop} (hn : a.1 = n) : (match (if c then none else some a : Option zCf) with | none => False | some q => if q.1 = n then A q else B q) = (¬ c ∧ A a) := by
  by_cases h : c
  · rw [if_pos h]; simp only [h, not_true_eq_false, false_and]
  · rw [if_neg h]; simp only [hn, if_true, h, not_false_eq_true, true_and]
theorem e_idiv {a w : Int32} : zx de mi y Q ((pc, .idiv, n, x, v, z, ws) :: L) p ls (.int w :: .int a :: r) μ = (¬ w = 0 ∧ zx de mi y Q L n ls (.int (a / w) :: r) μ) := zq_ifn rfl
theorem e_irem {a w : Int32} : zx de mi y Q ((pc, .irem, n, x, v, z, ws) :: L) p ls (.int w :: .int a :: r) μ = (¬ w = 0 ∧ zx de mi y Q L n ls (.int (a - a / w * w) :: r) μ) := zq_ifn rfl
theorem e_iushr {a w : Int32} : zx de mi y Q ((pc, .iushr, n, x, v, z, ws) :: L) p ls (.int w :: .int a :: r) μ = zx de mi y Q L n ls (.int ((a.toUInt32 >>> (w.toUInt32 &&& Int32.toUInt32 31)).toInt32) :: r) μ := if_pos rfl
theorem e_ineg {a : Int32} : zx de mi y Q ((pc, .ineg, n, x, v, z, ws) :: L) p ls (.int a :: r) μ = zx de mi y Q L n ls (.int (-a) :: r) μ := if_pos rfl
theorem e_i2l {a : Int32} : zx de mi y Q ((pc, .i2l, n, x, v, z, ws) :: L) p ls (.int a :: r) μ = zx de mi y Q L n ls (.long a.toInt64 :: r) μ := if_pos rfl
theorem e_lcmp {a w : Int64} : zx de mi y Q ((pc, .lcmp, n, x, v, z, ws) :: L) p ls (.long w :: .long a :: r) μ = zx de mi y Q L n ls (.int (lg_cmp a w) :: r) μ := if_pos rfl
theorem e_dup {a : Value} : zx de mi y Q ((pc, .dup, n, x, v, z, ws) :: L) p ls (a :: r) μ = (a.category = 1 ∧ zx de mi y Q L n ls (a :: a :: r) μ) := zq_if rfl
theorem e_dup_x1 {a b : Value} : zx de mi y Q ((pc, .dup_x1, n, x, v, z, ws) :: L) p ls (a :: b :: r) μ = ((a.category = 1 ∧ b.category = 1) ∧ zx de mi y Q L n ls (a :: b :: a :: r) μ) := zq_if rfl
theorem e_dup2 {a b : Value} : zx de mi y Q ((pc, .dup2, n, x, v, z, ws) :: L) p ls (a :: b :: r) μ = ((a.category = 1 ∧ b.category = 1) ∧ zx de mi y Q L n ls (a :: b :: a :: b :: r) μ) := zq_if rfl
theorem e_pop {a : Value} : zx de mi y Q ((pc, .pop, n, x, v, z, ws) :: L) p ls (a :: r) μ = (a.category = 1 ∧ zx de mi y Q L n ls (r) μ) := zq_if rfl
theorem zq_br {c : Prop} [Decidable c] {a b : zCf} {n : Nat} {A : zCf → Prop} {B : zCf → Prop} (ha : a.1 ≠ n) (hb : b.1 = n) : (match (if c then some a else some b : Option zCf) with | none => False | some q => if q.1 = n then A q else B q) = ((c → B a) ∧ (¬ c → A b)) := by
  by_cases h : c
  · rw [if_pos h]; simp only [if_neg ha, h, true_implies, not_true_eq_false, false_implies, and_true]
  · rw [if_neg h]; simp only [if_pos hb, h, false_implies, not_false_eq_true, true_implies, true_and]
theorem e_goto {off : Int} (hn : x ≠ n) : zx de mi y Q ((pc, (.goto off), n, x, v, z, ws) :: L) p ls (r) μ = zH de mi y x ls r μ Q := if_neg hn
theorem e_if_eq {off : Int} {a : Int32} (hn : x ≠ n) : zx de mi y Q ((pc, (.ifCond .eq off), n, x, v, z, ws) :: L) p ls (.int a :: r) μ = ((a = 0 → zH de mi y x ls r μ Q) ∧ (¬ (a = 0) → zx de mi y Q L n ls r μ)) := zq_br hn rfl
theorem e_if_ne {off : Int} {a : Int32} (hn : x ≠ n) : zx de mi y Q ((pc, (.ifCond .ne off), n, x, v, z, ws) :: L) p ls (.int a :: r) μ = ((a ≠ 0 → zH de mi y x ls r μ Q) ∧ (¬ (a ≠ 0) → zx de mi y Q L n ls r μ)) := zq_br hn rfl
theorem e_if_lt {off : Int} {a : Int32} (hn : x ≠ n) : zx de mi y Q ((pc, (.ifCond .lt off), n, x, v, z, ws) :: L) p ls (.int a :: r) μ = ((a < 0 → zH de mi y x ls r μ Q) ∧ (¬ (a < 0) → zx de mi y Q L n ls r μ)) := zq_br hn rfl
theorem e_if_ge {off : Int} {a : Int32} (hn : x ≠ n) : zx de mi y Q ((pc, (.ifCond .ge off), n, x, v, z, ws) :: L) p ls (.int a :: r) μ = ((0 ≤ a → zH de mi y x ls r μ Q) ∧ (¬ (0 ≤ a) → zx de mi y Q L n ls r μ)) := zq_br hn rfl
theorem e_if_gt {off : Int} {a : Int32} (hn : x ≠ n) : zx de mi y Q ((pc, (.ifCond .gt off), n, x, v, z, ws) :: L) p ls (.int a :: r) μ = ((0 < a → zH de mi y x ls r μ Q) ∧ (¬ (0 < a) → zx de mi y Q L n ls r μ)) := zq_br hn rfl
theorem e_if_le {off : Int} {a : Int32} (hn : x ≠ n) : zx de mi y Q ((pc, (.ifCond .le off), n, x, v, z, ws) :: L) p ls (.int a :: r) μ = ((a ≤ 0 → zH de mi y x ls r μ Q) ∧ (¬ (a ≤ 0) → zx de mi y Q L n ls r μ)) := zq_br hn rfl
theorem e_icmp_eq {off : Int} {a w : Int32} (hn : x ≠ n) : zx de mi y Q ((pc, (.if_icmp .eq off), n, x, v, z, ws) :: L) p ls (.int w :: .int a :: r) μ = ((a = w → zH de mi y x ls r μ Q) ∧ (¬ (a = w) → zx de mi y Q L n ls r μ)) := zq_br hn rfl
theorem e_icmp_ne {off : Int} {a w : Int32} (hn : x ≠ n) : zx de mi y Q ((pc, (.if_icmp .ne off), n, x, v, z, ws) :: L) p ls (.int w :: .int a :: r) μ = ((a ≠ w → zH de mi y x ls r μ Q) ∧ (¬ (a ≠ w) → zx de mi y Q L n ls r μ)) := zq_br hn rfl
theorem e_icmp_lt {off : Int} {a w : Int32} (hn : x ≠ n) : zx de mi y Q ((pc, (.if_icmp .lt off), n, x, v, z, ws) :: L) p ls (.int w :: .int a :: r) μ = ((a < w → zH de mi y x ls r μ Q) ∧ (¬ (a < w) → zx de mi y Q L n ls r μ)) := zq_br hn rfl
theorem e_icmp_ge {off : Int} {a w : Int32} (hn : x ≠ n) : zx de mi y Q ((pc, (.if_icmp .ge off), n, x, v, z, ws) :: L) p ls (.int w :: .int a :: r) μ = ((w ≤ a → zH de mi y x ls r μ Q) ∧ (¬ (w ≤ a) → zx de mi y Q L n ls r μ)) := zq_br hn rfl
theorem e_icmp_gt {off : Int} {a w : Int32} (hn : x ≠ n) : zx de mi y Q ((pc, (.if_icmp .gt off), n, x, v, z, ws) :: L) p ls (.int w :: .int a :: r) μ = ((w < a → zH de mi y x ls r μ Q) ∧ (¬ (w < a) → zx de mi y Q L n ls r μ)) := zq_br hn rfl
theorem e_icmp_le {off : Int} {a w : Int32} (hn : x ≠ n) : zx de mi y Q ((pc, (.if_icmp .le off), n, x, v, z, ws) :: L) p ls (.int w :: .int a :: r) μ = ((a ≤ w → zH de mi y x ls r μ Q) ∧ (¬ (a ≤ w) → zx de mi y Q L n ls r μ)) := zq_br hn rfl
theorem e_acmp_eq {off : Int} {a b : Value} {ra rw9 : Option Nat} (ha : zopt a = some ra) (hb : zopt b = some rw9) (hn : x ≠ n) : zx de mi y Q ((pc, (.if_acmp .eq off), n, x, v, z, ws) :: L) p ls (b :: a :: r) μ = ((ra = rw9 → zH de mi y x ls r μ Q) ∧ (¬ (ra = rw9) → zx de mi y Q L n ls r μ)) := by
  have e : zstep de mi (pc, (.if_acmp .eq off), n, x, v, z, ws) ls (b :: a :: r) μ = if ra = rw9 then some (x, ls, r, μ) else some (n, ls, r, μ) := by simp only [zstep, ha, hb]
  show (match zstep de mi (pc, (.if_acmp .eq off), n, x, v, z, ws) ls (b :: a :: r) μ with | none => False | some c => if c.1 = n then zx de mi y Q L c.1 c.2.1 c.2.2.1 c.2.2.2 else zH de mi y c.1 c.2.1 c.2.2.1 c.2.2.2 Q) = _
  rw [e]
  exact zq_br hn rfl
theorem e_acmp_ne {off : Int} {a b : Value} {ra rw9 : Option Nat} (ha : zopt a = some ra) (hb : zopt b = some rw9) (hn : x ≠ n) : zx de mi y Q ((pc, (.if_acmp .ne off), n, x, v, z, ws) :: L) p ls (b :: a :: r) μ = ((ra ≠ rw9 → zH de mi y x ls r μ Q) ∧ (¬ (ra ≠ rw9) → zx de mi y Q L n ls r μ)) := by
  have e : zstep de mi (pc, (.if_acmp .ne off), n, x, v, z, ws) ls (b :: a :: r) μ = if ra ≠ rw9 then some (x, ls, r, μ) else some (n, ls, r, μ) := by simp only [zstep, ha, hb]
  show (match zstep de mi (pc, (.if_acmp .ne off), n, x, v, z, ws) ls (b :: a :: r) μ with | none => False | some c => if c.1 = n then zx de mi y Q L c.1 c.2.1 c.2.2.1 c.2.2.2 else zH de mi y c.1 c.2.1 c.2.2.1 c.2.2.2 Q) = _
  rw [e]
  exact zq_br hn rfl
theorem e_ifnullN {off : Int} (hn : x ≠ n) : zx de mi y Q ((pc, (.ifnull off), n, x, v, z, ws) :: L) p ls (.null :: r) μ = zH de mi y x ls r μ Q := if_neg hn
theorem e_ifnull {off : Int} {w : Nat} : zx de mi y Q ((pc, (.ifnull off), n, x, v, z, ws) :: L) p ls (.ref w :: r) μ = zx de mi y Q L n ls (r) μ := if_pos rfl
theorem e_ifnonnull {off : Int} {w : Nat} (hn : x ≠ n) : zx de mi y Q ((pc, (.ifnonnull off), n, x, v, z, ws) :: L) p ls (.ref w :: r) μ = zH de mi y x ls r μ Q := if_neg hn
theorem e_ifnonnullN {off : Int} : zx de mi y Q ((pc, (.ifnonnull off), n, x, v, z, ws) :: L) p ls (.null :: r) μ = zx de mi y Q L n ls (r) μ := if_pos rfl
theorem e_getI {i a : Nat} : zx de mi y Q ((pc, (.getfield i), n, x, v, 0, ws) :: L) p ls (.ref a :: r) μ = (zK μ a = (x + 1, 0) ∧ zx de mi y Q L n ls (.int (zI μ a v) :: r) μ) := zq_if rfl
theorem e_getR {i a : Nat} : zx de mi y Q ((pc, (.getfield i), n, x, v, 1, ws) :: L) p ls (.ref a :: r) μ = (zK μ a = (x + 1, 0) ∧ zx de mi y Q L n ls (va_rf (zR μ a v) :: r) μ) := zq_if rfl
theorem e_putI {i a : Nat} {w : Int32} : zx de mi y Q ((pc, (.putfield i), n, x, v, 0, ws) :: L) p ls (.int w :: .ref a :: r) μ = (zK μ a = (x + 1, 0) ∧ zx de mi y Q L n ls r (zsI μ a v w)) := (zq_if rfl).trans (by simp)
theorem e_putZ {i a : Nat} {w : Int32} : zx de mi y Q ((pc, (.putfield i), n, x, v, 2, ws) :: L) p ls (.int w :: .ref a :: r) μ = (zK μ a = (x + 1, 0) ∧ (w = 0 ∨ w = 1) ∧ zx de mi y Q L n ls r (zsI μ a v w)) := (zq_if rfl).trans (by simp [and_assoc])
theorem e_putR {i a w : Nat} : zx de mi y Q ((pc, (.putfield i), n, x, v, 1, ws) :: L) p ls (.ref w :: .ref a :: r) μ = (zK μ a = (x + 1, 0) ∧ zx de mi y Q L n ls r (zsR μ a v (some w))) := (zq_if rfl).trans (by simp)
theorem e_putN {i a : Nat} : zx de mi y Q ((pc, (.putfield i), n, x, v, 1, ws) :: L) p ls (.null :: .ref a :: r) μ = (zK μ a = (x + 1, 0) ∧ zx de mi y Q L n ls r (zsR μ a v none)) := (zq_if rfl).trans (by simp)
theorem e_new {i : Nat} : zx de mi y Q ((pc, (.new i), n, x, v, 0, ws) :: L) p ls (r) μ = zx de mi y Q L n ls (.ref (zS μ) :: r) (znew μ (x + 1) 0 v) := if_pos rfl
theorem e_throw {i : Nat} : zx de mi y Q ((pc, (.new i), n, x, v, 9, ws) :: L) p ls (r) μ = (r.length ≤ 4 ∧ Q (.inr x) (znew μ 0 0 6)) := rfl
theorem e_newarray {t : ArrayType} {w : Int32} : zx de mi y Q ((pc, (.newarray t), n, x, v, z, ws) :: L) p ls (.int w :: r) μ = ((¬ w < 0 ∧ w.toNatClampNeg ≤ 1000) ∧ zx de mi y Q L n ls (.ref (zS μ) :: r) (znew μ x w.toNatClampNeg w.toNatClampNeg)) := zq_if rfl
theorem e_anewarray {i : Nat} {w : Int32} : zx de mi y Q ((pc, (.anewarray i), n, x, v, z, ws) :: L) p ls (.int w :: r) μ = ((¬ w < 0 ∧ w.toNatClampNeg ≤ 1000) ∧ zx de mi y Q L n ls (.ref (zS μ) :: r) (znew μ x w.toNatClampNeg w.toNatClampNeg)) := zq_if rfl
theorem e_alen {a : Nat} : zx de mi y Q ((pc, .arraylength, n, x, v, z, ws) :: L) p ls (.ref a :: r) μ = ((9 ≤ (zK μ a).1 ∧ (zK μ a).1 ≤ 15) ∧ zx de mi y Q L n ls (.int (nI (zK μ a).2) :: r) μ) := zq_if rfl
theorem e_iaload {i : Int32} {a : Nat} : zx de mi y Q ((pc, .iaload, n, x, v, z, ws) :: L) p ls (.int i :: .ref a :: r) μ = ((((zK μ a).1 = 9 ∨ (zK μ a).1 = 14) ∧ ¬ i < 0 ∧ i.toNatClampNeg < (zK μ a).2) ∧ zx de mi y Q L n ls (.int (zI μ a i.toNatClampNeg) :: r) μ) := zq_if rfl
theorem e_iastore {i w : Int32} {a : Nat} : zx de mi y Q ((pc, .iastore, n, x, v, z, ws) :: L) p ls (.int w :: .int i :: .ref a :: r) μ = (((zK μ a).1 = 9 ∧ ¬ i < 0 ∧ i.toNatClampNeg < (zK μ a).2) ∧ zx de mi y Q L n ls (r) (zsI μ a i.toNatClampNeg w)) := zq_if rfl
theorem e_aaload {i : Int32} {a : Nat} : zx de mi y Q ((pc, .aaload, n, x, v, z, ws) :: L) p ls (.int i :: .ref a :: r) μ = ((((zK μ a).1 = 11 ∨ (zK μ a).1 = 12) ∧ ¬ i < 0 ∧ i.toNatClampNeg < (zK μ a).2) ∧ zx de mi y Q L n ls (va_rf (zR μ a i.toNatClampNeg) :: r) μ) := zq_if rfl
theorem e_aastore {i : Int32} {a w : Nat} : zx de mi y Q ((pc, .aastore, n, x, v, z, ws) :: L) p ls (.ref w :: .int i :: .ref a :: r) μ = (((((zK μ a).1 = 11 ∧ (zK μ w).1 = 2) ∨ ((zK μ a).1 = 12 ∧ 1 ≤ (zK μ w).1 ∧ (zK μ w).1 ≤ 8)) ∧ ¬ i < 0 ∧ i.toNatClampNeg < (zK μ a).2) ∧ zx de mi y Q L n ls (r) (zsR μ a i.toNatClampNeg (some w))) := zq_if rfl
theorem e_aastoreN {i : Int32} {a : Nat} : zx de mi y Q ((pc, .aastore, n, x, v, z, ws) :: L) p ls (.null :: .int i :: .ref a :: r) μ = ((((zK μ a).1 = 11 ∨ (zK μ a).1 = 12) ∧ ¬ i < 0 ∧ i.toNatClampNeg < (zK μ a).2) ∧ zx de mi y Q L n ls (r) (zsR μ a i.toNatClampNeg none)) := zq_if rfl
theorem e_cast {i a : Nat} : zx de mi y Q ((pc, (.checkcast i), n, x, v, z, ws) :: L) p ls (.ref a :: r) μ = (zK μ a = (x + 1, 0) ∧ zx de mi y Q L n ls (.ref a :: r) μ) := zq_if rfl
theorem e_castN {i : Nat} : zx de mi y Q ((pc, (.checkcast i), n, x, v, z, ws) :: L) p ls (.null :: r) μ = zx de mi y Q L n ls (.null :: r) μ := if_pos rfl
theorem e_gets {i : Nat} : zx de mi y Q ((pc, (.getstatic i), n, x, v, z, ws) :: L) p ls (r) μ = zx de mi y Q L n ls (.ref de :: r) μ := if_pos rfl
theorem e_ldcM {i : Nat} : zx de mi y Q ((pc, (.ldc i), n, x, v, 5, ws) :: L) p ls (r) μ = zx de mi y Q L n ls (.ref mi :: r) μ := if_pos rfl
theorem e_ldcI {i : Nat} : zx de mi y Q ((pc, (.ldc i), n, x, v, 0, ws) :: L) p ls (r) μ = zx de mi y Q L n ls (.int (nI x) :: r) μ := if_pos rfl
theorem e_objInit {i a : Nat} : zx de mi y Q ((pc, (.invokespecial i), n, x, v, 210, ws) :: L) p ls (.ref a :: r) μ = (r.length ≤ 4 ∧ zx de mi y Q L n ls r μ) := zq_if rfl
theorem e_getC {i a : Nat} : zx de mi y Q ((pc, (.invokevirtual i), n, x, v, 215, ws) :: L) p ls (.ref a :: r) μ = (((zK μ a).1 = 12 ∧ r.length ≤ 4) ∧ zx de mi y Q L n ls (.ref mi :: r) μ) := zq_if rfl
theorem e_mmax {i : Nat} {a w : Int32} : zx de mi y Q ((pc, (.invokestatic i), n, x, v, 211, ws) :: L) p ls (.int w :: .int a :: r) μ = (r.length ≤ 4 ∧ zx de mi y Q L n ls (.int (if a < w then w else a) :: r) μ) := zq_if rfl
theorem e_mmin {i : Nat} {a w : Int32} : zx de mi y Q ((pc, (.invokestatic i), n, x, v, 212, ws) :: L) p ls (.int w :: .int a :: r) μ = (r.length ≤ 4 ∧ zx de mi y Q L n ls (.int (if w < a then w else a) :: r) μ) := zq_if rfl
theorem e_mabs {i : Nat} {a : Int32} : zx de mi y Q ((pc, (.invokestatic i), n, x, v, 213, ws) :: L) p ls (.int a :: r) μ = (r.length ≤ 4 ∧ zx de mi y Q L n ls (.int (if 0 ≤ a then a else 0 - a) :: r) μ) := zq_if rfl
theorem e_copy {i a b : Nat} {sp dp k : Int32} : zx de mi y Q ((pc, (.invokestatic i), n, x, v, 214, ws) :: L) p ls (.int k :: .int dp :: .ref b :: .int sp :: .ref a :: r) μ = ((r.length ≤ 4 ∧ (zK μ a).1 = 12 ∧ (zK μ b).1 = 12 ∧ ¬ sp < 0 ∧ ¬ dp < 0 ∧ ¬ k < 0 ∧ sp.toNatClampNeg + k.toNatClampNeg ≤ (zK μ a).2 ∧ dp.toNatClampNeg + k.toNatClampNeg ≤ (zK μ b).2 ∧ ∃ t, t < 8 ∧ ∀ i v, i < k.toNatClampNeg → zR μ a (sp.toNatClampNeg + i) = some v → zK μ v = (t + 1, 0)) ∧ zx de mi y Q L n ls r (zsW μ b (va_cpy (zR μ a) (zR μ b) sp.toNatClampNeg dp.toNatClampNeg k.toNatClampNeg))) := @zq_if _ (Classical.propDecidable _) _ _ _ _ rfl
theorem e_iret {w : Int32} : zx de mi y Q ((pc, .ireturn, n, x, v, 0, ws) :: L) p ls ([.int w]) μ = Q (.inl (some (.int w))) μ := rfl
theorem e_zret {w : Int32} : zx de mi y Q ((pc, .ireturn, n, x, v, 2, ws) :: L) p ls [.int w] μ = ((w = 0 ∨ w = 1) ∧ Q (.inl (some (.int w))) μ) := by
  show (match (if w = 0 ∨ w = 1 then some (.inl (some (.int w))) else none : Option zRes) with | some r => Q r μ | none => False) = _
  by_cases h : w = 0 ∨ w = 1
  · rw [if_pos h]; simp only [h, true_and]
  · rw [if_neg h]; simp only [h, false_and]
theorem e_aret {w : Nat} : zx de mi y Q ((pc, .areturn, n, x, v, z, ws) :: L) p ls ([.ref w]) μ = Q (.inl (some (.ref w))) μ := rfl
theorem e_aretN : zx de mi y Q ((pc, .areturn, n, x, v, z, ws) :: L) p ls ([.null]) μ = Q (.inl (some .null)) μ := rfl
theorem e_ret : zx de mi y Q ((pc, .return_, n, x, v, z, ws) :: L) p ls ([]) μ = Q (.inl none) μ := rfl
theorem e_v1 {c9 : Nat} {b : Nat} {i : Nat} : zx de mi y Q ((pc, (.invokevirtual i), n, x, 1, 100, (c9 :: ws)) :: L) p ls (.ref b :: r) μ = (zK μ b = (c9 + 1, 0) ∧ r.length ≤ 4 ∧ zCall de mi x [.ref b] μ (zret de mi y Q L n pc ls r)) := by
  show (match zargs (pc, (.invokevirtual i), n, x, 1, 100, (c9 :: ws)) (.ref b :: r) μ with | none => False | some (as, rest) => zCall de mi x as μ (zret de mi y Q L n pc ls rest)) = _
  by_cases hc : zK μ b = (c9 + 1, 0) ∧ r.length ≤ 4
  · have e : zargs (pc, (.invokevirtual i), n, x, 1, 100, (c9 :: ws)) (.ref b :: r) μ = some ([.ref b], r) := by
      obtain ⟨h1, h2⟩ := hc
      simp [zargs, zcat_ref, h1, h2]
      try omega
    rw [e]
    simp only [hc, true_and, and_self]
  · have e : zargs (pc, (.invokevirtual i), n, x, 1, 100, (c9 :: ws)) (.ref b :: r) μ = none := by
      cases hz : zargs (pc, (.invokevirtual i), n, x, 1, 100, (c9 :: ws)) (.ref b :: r) μ with
      | none => rfl
      | some q =>
        obtain ⟨as, rest⟩ := q
        obtain ⟨q1, q2, q3, q4, q5, q6⟩ := zargs_ok hz
        have q7 := List.append_inj (show [.ref b] ++ r = as.reverse ++ rest from q1) (by rw [List.length_reverse, q2]; rfl)
        obtain ⟨q8, rfl⟩ := q7
        have q9 : as = [.ref b] := by rw [← List.reverse_reverse as, ← q8]; rfl
        subst q9
        obtain ⟨b9, as9, e9, hk9⟩ := q5 rfl
        cases e9
        exact absurd (show zK μ b = (c9 + 1, 0) ∧ r.length ≤ 4 from ⟨hk9, q3⟩) hc
    rw [e]
    exact propext ⟨fun h => h.elim, fun h => hc (by simp only [h, and_self])⟩
theorem e_v2 {c9 : Nat} {b : Nat} {a1 : Value} {i : Nat} : zx de mi y Q ((pc, (.invokevirtual i), n, x, 2, 100, (c9 :: ws)) :: L) p ls (a1 :: .ref b :: r) μ = (zK μ b = (c9 + 1, 0) ∧ a1.category = 1 ∧ r.length ≤ 4 ∧ zCall de mi x [.ref b, a1] μ (zret de mi y Q L n pc ls r)) := by
  show (match zargs (pc, (.invokevirtual i), n, x, 2, 100, (c9 :: ws)) (a1 :: .ref b :: r) μ with | none => False | some (as, rest) => zCall de mi x as μ (zret de mi y Q L n pc ls rest)) = _
  by_cases hc : zK μ b = (c9 + 1, 0) ∧ a1.category = 1 ∧ r.length ≤ 4
  · have e : zargs (pc, (.invokevirtual i), n, x, 2, 100, (c9 :: ws)) (a1 :: .ref b :: r) μ = some ([.ref b, a1], r) := by
      obtain ⟨h1, h2, h3⟩ := hc
      simp [zargs, zcat_ref, h1, h2, h3]
      try omega
    rw [e]
    simp only [hc, true_and, and_self]
  · have e : zargs (pc, (.invokevirtual i), n, x, 2, 100, (c9 :: ws)) (a1 :: .ref b :: r) μ = none := by
      cases hz : zargs (pc, (.invokevirtual i), n, x, 2, 100, (c9 :: ws)) (a1 :: .ref b :: r) μ with
      | none => rfl
      | some q =>
        obtain ⟨as, rest⟩ := q
        obtain ⟨q1, q2, q3, q4, q5, q6⟩ := zargs_ok hz
        have q7 := List.append_inj (show [a1, .ref b] ++ r = as.reverse ++ rest from q1) (by rw [List.length_reverse, q2]; rfl)
        obtain ⟨q8, rfl⟩ := q7
        have q9 : as = [.ref b, a1] := by rw [← List.reverse_reverse as, ← q8]; rfl
        subst q9
        obtain ⟨b9, as9, e9, hk9⟩ := q5 rfl
        cases e9
        exact absurd (show zK μ b = (c9 + 1, 0) ∧ a1.category = 1 ∧ r.length ≤ 4 from ⟨hk9, q4 a1 (by simp), q3⟩) hc
    rw [e]
    exact propext ⟨fun h => h.elim, fun h => hc (by simp only [h, and_self])⟩
theorem e_v3 {c9 : Nat} {b : Nat} {a1 a2 : Value} {i : Nat} : zx de mi y Q ((pc, (.invokevirtual i), n, x, 3, 100, (c9 :: ws)) :: L) p ls (a2 :: a1 :: .ref b :: r) μ = (zK μ b = (c9 + 1, 0) ∧ a1.category = 1 ∧ a2.category = 1 ∧ r.length ≤ 4 ∧ zCall de mi x [.ref b, a1, a2] μ (zret de mi y Q L n pc ls r)) := by
  show (match zargs (pc, (.invokevirtual i), n, x, 3, 100, (c9 :: ws)) (a2 :: a1 :: .ref b :: r) μ with | none => False | some (as, rest) => zCall de mi x as μ (zret de mi y Q L n pc ls rest)) = _
  by_cases hc : zK μ b = (c9 + 1, 0) ∧ a1.category = 1 ∧ a2.category = 1 ∧ r.length ≤ 4
  · have e : zargs (pc, (.invokevirtual i), n, x, 3, 100, (c9 :: ws)) (a2 :: a1 :: .ref b :: r) μ = some ([.ref b, a1, a2], r) := by
      obtain ⟨h1, h2, h3, h4⟩ := hc
      simp [zargs, zcat_ref, h1, h2, h3, h4]
      try omega
    rw [e]
    simp only [hc, true_and, and_self]
  · have e : zargs (pc, (.invokevirtual i), n, x, 3, 100, (c9 :: ws)) (a2 :: a1 :: .ref b :: r) μ = none := by
      cases hz : zargs (pc, (.invokevirtual i), n, x, 3, 100, (c9 :: ws)) (a2 :: a1 :: .ref b :: r) μ with
      | none => rfl
      | some q =>
        obtain ⟨as, rest⟩ := q
        obtain ⟨q1, q2, q3, q4, q5, q6⟩ := zargs_ok hz
        have q7 := List.append_inj (show [a2, a1, .ref b] ++ r = as.reverse ++ rest from q1) (by rw [List.length_reverse, q2]; rfl)
        obtain ⟨q8, rfl⟩ := q7
        have q9 : as = [.ref b, a1, a2] := by rw [← List.reverse_reverse as, ← q8]; rfl
        subst q9
        obtain ⟨b9, as9, e9, hk9⟩ := q5 rfl
        cases e9
        exact absurd (show zK μ b = (c9 + 1, 0) ∧ a1.category = 1 ∧ a2.category = 1 ∧ r.length ≤ 4 from ⟨hk9, q4 a1 (by simp), q4 a2 (by simp), q3⟩) hc
    rw [e]
    exact propext ⟨fun h => h.elim, fun h => hc (by simp only [h, and_self])⟩
theorem e_v4 {c9 : Nat} {b : Nat} {a1 a2 a3 : Value} {i : Nat} : zx de mi y Q ((pc, (.invokevirtual i), n, x, 4, 100, (c9 :: ws)) :: L) p ls (a3 :: a2 :: a1 :: .ref b :: r) μ = (zK μ b = (c9 + 1, 0) ∧ a1.category = 1 ∧ a2.category = 1 ∧ a3.category = 1 ∧ r.length ≤ 4 ∧ zCall de mi x [.ref b, a1, a2, a3] μ (zret de mi y Q L n pc ls r)) := by
  show (match zargs (pc, (.invokevirtual i), n, x, 4, 100, (c9 :: ws)) (a3 :: a2 :: a1 :: .ref b :: r) μ with | none => False | some (as, rest) => zCall de mi x as μ (zret de mi y Q L n pc ls rest)) = _
  by_cases hc : zK μ b = (c9 + 1, 0) ∧ a1.category = 1 ∧ a2.category = 1 ∧ a3.category = 1 ∧ r.length ≤ 4
  · have e : zargs (pc, (.invokevirtual i), n, x, 4, 100, (c9 :: ws)) (a3 :: a2 :: a1 :: .ref b :: r) μ = some ([.ref b, a1, a2, a3], r) := by
      obtain ⟨h1, h2, h3, h4, h5⟩ := hc
      simp [zargs, zcat_ref, h1, h2, h3, h4, h5]
      try omega
    rw [e]
    simp only [hc, true_and, and_self]
  · have e : zargs (pc, (.invokevirtual i), n, x, 4, 100, (c9 :: ws)) (a3 :: a2 :: a1 :: .ref b :: r) μ = none := by
      cases hz : zargs (pc, (.invokevirtual i), n, x, 4, 100, (c9 :: ws)) (a3 :: a2 :: a1 :: .ref b :: r) μ with
      | none => rfl
      | some q =>
        obtain ⟨as, rest⟩ := q
        obtain ⟨q1, q2, q3, q4, q5, q6⟩ := zargs_ok hz
        have q7 := List.append_inj (show [a3, a2, a1, .ref b] ++ r = as.reverse ++ rest from q1) (by rw [List.length_reverse, q2]; rfl)
        obtain ⟨q8, rfl⟩ := q7
        have q9 : as = [.ref b, a1, a2, a3] := by rw [← List.reverse_reverse as, ← q8]; rfl
        subst q9
        obtain ⟨b9, as9, e9, hk9⟩ := q5 rfl
        cases e9
        exact absurd (show zK μ b = (c9 + 1, 0) ∧ a1.category = 1 ∧ a2.category = 1 ∧ a3.category = 1 ∧ r.length ≤ 4 from ⟨hk9, q4 a1 (by simp), q4 a2 (by simp), q4 a3 (by simp), q3⟩) hc
    rw [e]
    exact propext ⟨fun h => h.elim, fun h => hc (by simp only [h, and_self])⟩
theorem e_v6 {c9 : Nat} {b : Nat} {a1 a2 a3 a4 a5 : Value} {i : Nat} : zx de mi y Q ((pc, (.invokevirtual i), n, x, 6, 100, (c9 :: ws)) :: L) p ls (a5 :: a4 :: a3 :: a2 :: a1 :: .ref b :: r) μ = (zK μ b = (c9 + 1, 0) ∧ a1.category = 1 ∧ a2.category = 1 ∧ a3.category = 1 ∧ a4.category = 1 ∧ a5.category = 1 ∧ r.length ≤ 4 ∧ zCall de mi x [.ref b, a1, a2, a3, a4, a5] μ (zret de mi y Q L n pc ls r)) := by
  show (match zargs (pc, (.invokevirtual i), n, x, 6, 100, (c9 :: ws)) (a5 :: a4 :: a3 :: a2 :: a1 :: .ref b :: r) μ with | none => False | some (as, rest) => zCall de mi x as μ (zret de mi y Q L n pc ls rest)) = _
  by_cases hc : zK μ b = (c9 + 1, 0) ∧ a1.category = 1 ∧ a2.category = 1 ∧ a3.category = 1 ∧ a4.category = 1 ∧ a5.category = 1 ∧ r.length ≤ 4
  · have e : zargs (pc, (.invokevirtual i), n, x, 6, 100, (c9 :: ws)) (a5 :: a4 :: a3 :: a2 :: a1 :: .ref b :: r) μ = some ([.ref b, a1, a2, a3, a4, a5], r) := by
      obtain ⟨h1, h2, h3, h4, h5, h6, h7⟩ := hc
      simp [zargs, zcat_ref, h1, h2, h3, h4, h5, h6, h7]
      try omega
    rw [e]
    simp only [hc, true_and, and_self]
  · have e : zargs (pc, (.invokevirtual i), n, x, 6, 100, (c9 :: ws)) (a5 :: a4 :: a3 :: a2 :: a1 :: .ref b :: r) μ = none := by
      cases hz : zargs (pc, (.invokevirtual i), n, x, 6, 100, (c9 :: ws)) (a5 :: a4 :: a3 :: a2 :: a1 :: .ref b :: r) μ with
      | none => rfl
      | some q =>
        obtain ⟨as, rest⟩ := q
        obtain ⟨q1, q2, q3, q4, q5, q6⟩ := zargs_ok hz
        have q7 := List.append_inj (show [a5, a4, a3, a2, a1, .ref b] ++ r = as.reverse ++ rest from q1) (by rw [List.length_reverse, q2]; rfl)
        obtain ⟨q8, rfl⟩ := q7
        have q9 : as = [.ref b, a1, a2, a3, a4, a5] := by rw [← List.reverse_reverse as, ← q8]; rfl
        subst q9
        obtain ⟨b9, as9, e9, hk9⟩ := q5 rfl
        cases e9
        exact absurd (show zK μ b = (c9 + 1, 0) ∧ a1.category = 1 ∧ a2.category = 1 ∧ a3.category = 1 ∧ a4.category = 1 ∧ a5.category = 1 ∧ r.length ≤ 4 from ⟨hk9, q4 a1 (by simp), q4 a2 (by simp), q4 a3 (by simp), q4 a4 (by simp), q4 a5 (by simp), q3⟩) hc
    rw [e]
    exact propext ⟨fun h => h.elim, fun h => hc (by simp only [h, and_self])⟩
theorem e_s1 {b : Nat} {i : Nat} : zx de mi y Q ((pc, (.invokespecial i), n, x, 1, 101, ws) :: L) p ls (.ref b :: r) μ = (r.length ≤ 4 ∧ zCall de mi x [.ref b] μ (zret de mi y Q L n pc ls r)) := by
  show (match zargs (pc, (.invokespecial i), n, x, 1, 101, ws) (.ref b :: r) μ with | none => False | some (as, rest) => zCall de mi x as μ (zret de mi y Q L n pc ls rest)) = _
  by_cases hc : r.length ≤ 4
  · have e : zargs (pc, (.invokespecial i), n, x, 1, 101, ws) (.ref b :: r) μ = some ([.ref b], r) := by
      have h1 := hc
      simp [zargs, zcat_ref, h1]
      try omega
    rw [e]
    simp only [hc, true_and, and_self]
  · have e : zargs (pc, (.invokespecial i), n, x, 1, 101, ws) (.ref b :: r) μ = none := by
      cases hz : zargs (pc, (.invokespecial i), n, x, 1, 101, ws) (.ref b :: r) μ with
      | none => rfl
      | some q =>
        obtain ⟨as, rest⟩ := q
        obtain ⟨q1, q2, q3, q4, q5, q6⟩ := zargs_ok hz
        have q7 := List.append_inj (show [.ref b] ++ r = as.reverse ++ rest from q1) (by rw [List.length_reverse, q2]; rfl)
        obtain ⟨q8, rfl⟩ := q7
        have q9 : as = [.ref b] := by rw [← List.reverse_reverse as, ← q8]; rfl
        subst q9
        skip
        exact absurd (show r.length ≤ 4 from q3) hc
    rw [e]
    exact propext ⟨fun h => h.elim, fun h => hc (by simp only [h, and_self])⟩
theorem e_s3 {b : Nat} {a1 a2 : Value} {i : Nat} : zx de mi y Q ((pc, (.invokespecial i), n, x, 3, 101, ws) :: L) p ls (a2 :: a1 :: .ref b :: r) μ = (a1.category = 1 ∧ a2.category = 1 ∧ r.length ≤ 4 ∧ zCall de mi x [.ref b, a1, a2] μ (zret de mi y Q L n pc ls r)) := by
  show (match zargs (pc, (.invokespecial i), n, x, 3, 101, ws) (a2 :: a1 :: .ref b :: r) μ with | none => False | some (as, rest) => zCall de mi x as μ (zret de mi y Q L n pc ls rest)) = _
  by_cases hc : a1.category = 1 ∧ a2.category = 1 ∧ r.length ≤ 4
  · have e : zargs (pc, (.invokespecial i), n, x, 3, 101, ws) (a2 :: a1 :: .ref b :: r) μ = some ([.ref b, a1, a2], r) := by
      obtain ⟨h1, h2, h3⟩ := hc
      simp [zargs, zcat_ref, h1, h2, h3]
      try omega
    rw [e]
    simp only [hc, true_and, and_self]
  · have e : zargs (pc, (.invokespecial i), n, x, 3, 101, ws) (a2 :: a1 :: .ref b :: r) μ = none := by
      cases hz : zargs (pc, (.invokespecial i), n, x, 3, 101, ws) (a2 :: a1 :: .ref b :: r) μ with
      | none => rfl
      | some q =>
        obtain ⟨as, rest⟩ := q
        obtain ⟨q1, q2, q3, q4, q5, q6⟩ := zargs_ok hz
        have q7 := List.append_inj (show [a2, a1, .ref b] ++ r = as.reverse ++ rest from q1) (by rw [List.length_reverse, q2]; rfl)
        obtain ⟨q8, rfl⟩ := q7
        have q9 : as = [.ref b, a1, a2] := by rw [← List.reverse_reverse as, ← q8]; rfl
        subst q9
        skip
        exact absurd (show a1.category = 1 ∧ a2.category = 1 ∧ r.length ≤ 4 from ⟨q4 a1 (by simp), q4 a2 (by simp), q3⟩) hc
    rw [e]
    exact propext ⟨fun h => h.elim, fun h => hc (by simp only [h, and_self])⟩
theorem e_s6 {b : Nat} {a1 a2 a3 a4 a5 : Value} {i : Nat} : zx de mi y Q ((pc, (.invokespecial i), n, x, 6, 101, ws) :: L) p ls (a5 :: a4 :: a3 :: a2 :: a1 :: .ref b :: r) μ = (a1.category = 1 ∧ a2.category = 1 ∧ a3.category = 1 ∧ a4.category = 1 ∧ a5.category = 1 ∧ r.length ≤ 4 ∧ zCall de mi x [.ref b, a1, a2, a3, a4, a5] μ (zret de mi y Q L n pc ls r)) := by
  show (match zargs (pc, (.invokespecial i), n, x, 6, 101, ws) (a5 :: a4 :: a3 :: a2 :: a1 :: .ref b :: r) μ with | none => False | some (as, rest) => zCall de mi x as μ (zret de mi y Q L n pc ls rest)) = _
  by_cases hc : a1.category = 1 ∧ a2.category = 1 ∧ a3.category = 1 ∧ a4.category = 1 ∧ a5.category = 1 ∧ r.length ≤ 4
  · have e : zargs (pc, (.invokespecial i), n, x, 6, 101, ws) (a5 :: a4 :: a3 :: a2 :: a1 :: .ref b :: r) μ = some ([.ref b, a1, a2, a3, a4, a5], r) := by
      obtain ⟨h1, h2, h3, h4, h5, h6⟩ := hc
      simp [zargs, zcat_ref, h1, h2, h3, h4, h5, h6]
      try omega
    rw [e]
    simp only [hc, true_and, and_self]
  · have e : zargs (pc, (.invokespecial i), n, x, 6, 101, ws) (a5 :: a4 :: a3 :: a2 :: a1 :: .ref b :: r) μ = none := by
      cases hz : zargs (pc, (.invokespecial i), n, x, 6, 101, ws) (a5 :: a4 :: a3 :: a2 :: a1 :: .ref b :: r) μ with
      | none => rfl
      | some q =>
        obtain ⟨as, rest⟩ := q
        obtain ⟨q1, q2, q3, q4, q5, q6⟩ := zargs_ok hz
        have q7 := List.append_inj (show [a5, a4, a3, a2, a1, .ref b] ++ r = as.reverse ++ rest from q1) (by rw [List.length_reverse, q2]; rfl)
        obtain ⟨q8, rfl⟩ := q7
        have q9 : as = [.ref b, a1, a2, a3, a4, a5] := by rw [← List.reverse_reverse as, ← q8]; rfl
        subst q9
        skip
        exact absurd (show a1.category = 1 ∧ a2.category = 1 ∧ a3.category = 1 ∧ a4.category = 1 ∧ a5.category = 1 ∧ r.length ≤ 4 from ⟨q4 a1 (by simp), q4 a2 (by simp), q4 a3 (by simp), q4 a4 (by simp), q4 a5 (by simp), q3⟩) hc
    rw [e]
    exact propext ⟨fun h => h.elim, fun h => hc (by simp only [h, and_self])⟩
theorem e_c102_0 {i : Nat} : zx de mi y Q ((pc, (.invokestatic i), n, x, 0, 102, ws) :: L) p ls (r) μ = (r.length ≤ 4 ∧ zCall de mi x [] μ (zret de mi y Q L n pc ls r)) := by
  show (match zargs (pc, (.invokestatic i), n, x, 0, 102, ws) (r) μ with | none => False | some (as, rest) => zCall de mi x as μ (zret de mi y Q L n pc ls rest)) = _
  by_cases hc : r.length ≤ 4
  · have e : zargs (pc, (.invokestatic i), n, x, 0, 102, ws) (r) μ = some ([], r) := by
      have h1 := hc
      simp [zargs, zcat_ref, h1]
      try omega
    rw [e]
    simp only [hc, true_and, and_self]
  · have e : zargs (pc, (.invokestatic i), n, x, 0, 102, ws) (r) μ = none := by
      cases hz : zargs (pc, (.invokestatic i), n, x, 0, 102, ws) (r) μ with
      | none => rfl
      | some q =>
        obtain ⟨as, rest⟩ := q
        obtain ⟨q1, q2, q3, q4, q5, q6⟩ := zargs_ok hz
        have q7 := List.append_inj (show [] ++ r = as.reverse ++ rest from q1) (by rw [List.length_reverse, q2]; rfl)
        obtain ⟨q8, rfl⟩ := q7
        have q9 : as = [] := by rw [← List.reverse_reverse as, ← q8]; rfl
        subst q9
        skip
        exact absurd (show r.length ≤ 4 from q3) hc
    rw [e]
    exact propext ⟨fun h => h.elim, fun h => hc (by simp only [h, and_self])⟩
theorem e_c102_1 {a1 : Value} {i : Nat} : zx de mi y Q ((pc, (.invokestatic i), n, x, 1, 102, ws) :: L) p ls (a1 :: r) μ = (a1.category = 1 ∧ r.length ≤ 4 ∧ zCall de mi x [a1] μ (zret de mi y Q L n pc ls r)) := by
  show (match zargs (pc, (.invokestatic i), n, x, 1, 102, ws) (a1 :: r) μ with | none => False | some (as, rest) => zCall de mi x as μ (zret de mi y Q L n pc ls rest)) = _
  by_cases hc : a1.category = 1 ∧ r.length ≤ 4
  · have e : zargs (pc, (.invokestatic i), n, x, 1, 102, ws) (a1 :: r) μ = some ([a1], r) := by
      obtain ⟨h1, h2⟩ := hc
      simp [zargs, zcat_ref, h1, h2]
      try omega
    rw [e]
    simp only [hc, true_and, and_self]
  · have e : zargs (pc, (.invokestatic i), n, x, 1, 102, ws) (a1 :: r) μ = none := by
      cases hz : zargs (pc, (.invokestatic i), n, x, 1, 102, ws) (a1 :: r) μ with
      | none => rfl
      | some q =>
        obtain ⟨as, rest⟩ := q
        obtain ⟨q1, q2, q3, q4, q5, q6⟩ := zargs_ok hz
        have q7 := List.append_inj (show [a1] ++ r = as.reverse ++ rest from q1) (by rw [List.length_reverse, q2]; rfl)
        obtain ⟨q8, rfl⟩ := q7
        have q9 : as = [a1] := by rw [← List.reverse_reverse as, ← q8]; rfl
        subst q9
        skip
        exact absurd (show a1.category = 1 ∧ r.length ≤ 4 from ⟨q4 a1 (by simp), q3⟩) hc
    rw [e]
    exact propext ⟨fun h => h.elim, fun h => hc (by simp only [h, and_self])⟩
theorem e_c102_2 {a1 a2 : Value} {i : Nat} : zx de mi y Q ((pc, (.invokestatic i), n, x, 2, 102, ws) :: L) p ls (a2 :: a1 :: r) μ = (a1.category = 1 ∧ a2.category = 1 ∧ r.length ≤ 4 ∧ zCall de mi x [a1, a2] μ (zret de mi y Q L n pc ls r)) := by
  show (match zargs (pc, (.invokestatic i), n, x, 2, 102, ws) (a2 :: a1 :: r) μ with | none => False | some (as, rest) => zCall de mi x as μ (zret de mi y Q L n pc ls rest)) = _
  by_cases hc : a1.category = 1 ∧ a2.category = 1 ∧ r.length ≤ 4
  · have e : zargs (pc, (.invokestatic i), n, x, 2, 102, ws) (a2 :: a1 :: r) μ = some ([a1, a2], r) := by
      obtain ⟨h1, h2, h3⟩ := hc
      simp [zargs, zcat_ref, h1, h2, h3]
      try omega
    rw [e]
    simp only [hc, true_and, and_self]
  · have e : zargs (pc, (.invokestatic i), n, x, 2, 102, ws) (a2 :: a1 :: r) μ = none := by
      cases hz : zargs (pc, (.invokestatic i), n, x, 2, 102, ws) (a2 :: a1 :: r) μ with
      | none => rfl
      | some q =>
        obtain ⟨as, rest⟩ := q
        obtain ⟨q1, q2, q3, q4, q5, q6⟩ := zargs_ok hz
        have q7 := List.append_inj (show [a2, a1] ++ r = as.reverse ++ rest from q1) (by rw [List.length_reverse, q2]; rfl)
        obtain ⟨q8, rfl⟩ := q7
        have q9 : as = [a1, a2] := by rw [← List.reverse_reverse as, ← q8]; rfl
        subst q9
        skip
        exact absurd (show a1.category = 1 ∧ a2.category = 1 ∧ r.length ≤ 4 from ⟨q4 a1 (by simp), q4 a2 (by simp), q3⟩) hc
    rw [e]
    exact propext ⟨fun h => h.elim, fun h => hc (by simp only [h, and_self])⟩
theorem e_c102_3 {a1 a2 a3 : Value} {i : Nat} : zx de mi y Q ((pc, (.invokestatic i), n, x, 3, 102, ws) :: L) p ls (a3 :: a2 :: a1 :: r) μ = (a1.category = 1 ∧ a2.category = 1 ∧ a3.category = 1 ∧ r.length ≤ 4 ∧ zCall de mi x [a1, a2, a3] μ (zret de mi y Q L n pc ls r)) := by
  show (match zargs (pc, (.invokestatic i), n, x, 3, 102, ws) (a3 :: a2 :: a1 :: r) μ with | none => False | some (as, rest) => zCall de mi x as μ (zret de mi y Q L n pc ls rest)) = _
  by_cases hc : a1.category = 1 ∧ a2.category = 1 ∧ a3.category = 1 ∧ r.length ≤ 4
  · have e : zargs (pc, (.invokestatic i), n, x, 3, 102, ws) (a3 :: a2 :: a1 :: r) μ = some ([a1, a2, a3], r) := by
      obtain ⟨h1, h2, h3, h4⟩ := hc
      simp [zargs, zcat_ref, h1, h2, h3, h4]
      try omega
    rw [e]
    simp only [hc, true_and, and_self]
  · have e : zargs (pc, (.invokestatic i), n, x, 3, 102, ws) (a3 :: a2 :: a1 :: r) μ = none := by
      cases hz : zargs (pc, (.invokestatic i), n, x, 3, 102, ws) (a3 :: a2 :: a1 :: r) μ with
      | none => rfl
      | some q =>
        obtain ⟨as, rest⟩ := q
        obtain ⟨q1, q2, q3, q4, q5, q6⟩ := zargs_ok hz
        have q7 := List.append_inj (show [a3, a2, a1] ++ r = as.reverse ++ rest from q1) (by rw [List.length_reverse, q2]; rfl)
        obtain ⟨q8, rfl⟩ := q7
        have q9 : as = [a1, a2, a3] := by rw [← List.reverse_reverse as, ← q8]; rfl
        subst q9
        skip
        exact absurd (show a1.category = 1 ∧ a2.category = 1 ∧ a3.category = 1 ∧ r.length ≤ 4 from ⟨q4 a1 (by simp), q4 a2 (by simp), q4 a3 (by simp), q3⟩) hc
    rw [e]
    exact propext ⟨fun h => h.elim, fun h => hc (by simp only [h, and_self])⟩
theorem e_c102_4 {a1 a2 a3 a4 : Value} {i : Nat} : zx de mi y Q ((pc, (.invokestatic i), n, x, 4, 102, ws) :: L) p ls (a4 :: a3 :: a2 :: a1 :: r) μ = (a1.category = 1 ∧ a2.category = 1 ∧ a3.category = 1 ∧ a4.category = 1 ∧ r.length ≤ 4 ∧ zCall de mi x [a1, a2, a3, a4] μ (zret de mi y Q L n pc ls r)) := by
  show (match zargs (pc, (.invokestatic i), n, x, 4, 102, ws) (a4 :: a3 :: a2 :: a1 :: r) μ with | none => False | some (as, rest) => zCall de mi x as μ (zret de mi y Q L n pc ls rest)) = _
  by_cases hc : a1.category = 1 ∧ a2.category = 1 ∧ a3.category = 1 ∧ a4.category = 1 ∧ r.length ≤ 4
  · have e : zargs (pc, (.invokestatic i), n, x, 4, 102, ws) (a4 :: a3 :: a2 :: a1 :: r) μ = some ([a1, a2, a3, a4], r) := by
      obtain ⟨h1, h2, h3, h4, h5⟩ := hc
      simp [zargs, zcat_ref, h1, h2, h3, h4, h5]
      try omega
    rw [e]
    simp only [hc, true_and, and_self]
  · have e : zargs (pc, (.invokestatic i), n, x, 4, 102, ws) (a4 :: a3 :: a2 :: a1 :: r) μ = none := by
      cases hz : zargs (pc, (.invokestatic i), n, x, 4, 102, ws) (a4 :: a3 :: a2 :: a1 :: r) μ with
      | none => rfl
      | some q =>
        obtain ⟨as, rest⟩ := q
        obtain ⟨q1, q2, q3, q4, q5, q6⟩ := zargs_ok hz
        have q7 := List.append_inj (show [a4, a3, a2, a1] ++ r = as.reverse ++ rest from q1) (by rw [List.length_reverse, q2]; rfl)
        obtain ⟨q8, rfl⟩ := q7
        have q9 : as = [a1, a2, a3, a4] := by rw [← List.reverse_reverse as, ← q8]; rfl
        subst q9
        skip
        exact absurd (show a1.category = 1 ∧ a2.category = 1 ∧ a3.category = 1 ∧ a4.category = 1 ∧ r.length ≤ 4 from ⟨q4 a1 (by simp), q4 a2 (by simp), q4 a3 (by simp), q4 a4 (by simp), q3⟩) hc
    rw [e]
    exact propext ⟨fun h => h.elim, fun h => hc (by simp only [h, and_self])⟩
theorem e_c103_1 {a1 : Value} {i : Nat} : zx de mi y Q ((pc, (.invokestatic i), n, x, 1, 103, ws) :: L) p ls (a1 :: r) μ = (a1.category = 1 ∧ r.length ≤ 4 ∧ zCall de mi x [a1] μ (zret de mi y Q L n pc ls r)) := by
  show (match zargs (pc, (.invokestatic i), n, x, 1, 103, ws) (a1 :: r) μ with | none => False | some (as, rest) => zCall de mi x as μ (zret de mi y Q L n pc ls rest)) = _
  by_cases hc : a1.category = 1 ∧ r.length ≤ 4
  · have e : zargs (pc, (.invokestatic i), n, x, 1, 103, ws) (a1 :: r) μ = some ([a1], r) := by
      obtain ⟨h1, h2⟩ := hc
      simp [zargs, zcat_ref, h1, h2]
      try omega
    rw [e]
    simp only [hc, true_and, and_self]
  · have e : zargs (pc, (.invokestatic i), n, x, 1, 103, ws) (a1 :: r) μ = none := by
      cases hz : zargs (pc, (.invokestatic i), n, x, 1, 103, ws) (a1 :: r) μ with
      | none => rfl
      | some q =>
        obtain ⟨as, rest⟩ := q
        obtain ⟨q1, q2, q3, q4, q5, q6⟩ := zargs_ok hz
        have q7 := List.append_inj (show [a1] ++ r = as.reverse ++ rest from q1) (by rw [List.length_reverse, q2]; rfl)
        obtain ⟨q8, rfl⟩ := q7
        have q9 : as = [a1] := by rw [← List.reverse_reverse as, ← q8]; rfl
        subst q9
        skip
        exact absurd (show a1.category = 1 ∧ r.length ≤ 4 from ⟨q4 a1 (by simp), q3⟩) hc
    rw [e]
    exact propext ⟨fun h => h.elim, fun h => hc (by simp only [h, and_self])⟩
theorem e_c104_5 {a1 a2 a3 a4 a5 : Value} {i : Nat} : zx de mi y Q ((pc, (.invokestatic i), n, x, 5, 104, ws) :: L) p ls (a5 :: a4 :: a3 :: a2 :: a1 :: r) μ = (a1.category = 1 ∧ a2.category = 1 ∧ a3.category = 1 ∧ a4.category = 1 ∧ a5.category = 1 ∧ r.length ≤ 4 ∧ zCall de mi x [a1, a2, a3, a4, a5] μ (zret de mi y Q L n pc ls r)) := by
  show (match zargs (pc, (.invokestatic i), n, x, 5, 104, ws) (a5 :: a4 :: a3 :: a2 :: a1 :: r) μ with | none => False | some (as, rest) => zCall de mi x as μ (zret de mi y Q L n pc ls rest)) = _
  by_cases hc : a1.category = 1 ∧ a2.category = 1 ∧ a3.category = 1 ∧ a4.category = 1 ∧ a5.category = 1 ∧ r.length ≤ 4
  · have e : zargs (pc, (.invokestatic i), n, x, 5, 104, ws) (a5 :: a4 :: a3 :: a2 :: a1 :: r) μ = some ([a1, a2, a3, a4, a5], r) := by
      obtain ⟨h1, h2, h3, h4, h5, h6⟩ := hc
      simp [zargs, zcat_ref, h1, h2, h3, h4, h5, h6]
      try omega
    rw [e]
    simp only [hc, true_and, and_self]
  · have e : zargs (pc, (.invokestatic i), n, x, 5, 104, ws) (a5 :: a4 :: a3 :: a2 :: a1 :: r) μ = none := by
      cases hz : zargs (pc, (.invokestatic i), n, x, 5, 104, ws) (a5 :: a4 :: a3 :: a2 :: a1 :: r) μ with
      | none => rfl
      | some q =>
        obtain ⟨as, rest⟩ := q
        obtain ⟨q1, q2, q3, q4, q5, q6⟩ := zargs_ok hz
        have q7 := List.append_inj (show [a5, a4, a3, a2, a1] ++ r = as.reverse ++ rest from q1) (by rw [List.length_reverse, q2]; rfl)
        obtain ⟨q8, rfl⟩ := q7
        have q9 : as = [a1, a2, a3, a4, a5] := by rw [← List.reverse_reverse as, ← q8]; rfl
        subst q9
        skip
        exact absurd (show a1.category = 1 ∧ a2.category = 1 ∧ a3.category = 1 ∧ a4.category = 1 ∧ a5.category = 1 ∧ r.length ≤ 4 from ⟨q4 a1 (by simp), q4 a2 (by simp), q4 a3 (by simp), q4 a4 (by simp), q4 a5 (by simp), q3⟩) hc
    rw [e]
    exact propext ⟨fun h => h.elim, fun h => hc (by simp only [h, and_self])⟩
theorem e_c104_7 {a1 a2 a3 a4 a5 a6 a7 : Value} {i : Nat} : zx de mi y Q ((pc, (.invokestatic i), n, x, 7, 104, ws) :: L) p ls (a7 :: a6 :: a5 :: a4 :: a3 :: a2 :: a1 :: r) μ = (a1.category = 1 ∧ a2.category = 1 ∧ a3.category = 1 ∧ a4.category = 1 ∧ a5.category = 1 ∧ a6.category = 1 ∧ a7.category = 1 ∧ r.length ≤ 4 ∧ zCall de mi x [a1, a2, a3, a4, a5, a6, a7] μ (zret de mi y Q L n pc ls r)) := by
  show (match zargs (pc, (.invokestatic i), n, x, 7, 104, ws) (a7 :: a6 :: a5 :: a4 :: a3 :: a2 :: a1 :: r) μ with | none => False | some (as, rest) => zCall de mi x as μ (zret de mi y Q L n pc ls rest)) = _
  by_cases hc : a1.category = 1 ∧ a2.category = 1 ∧ a3.category = 1 ∧ a4.category = 1 ∧ a5.category = 1 ∧ a6.category = 1 ∧ a7.category = 1 ∧ r.length ≤ 4
  · have e : zargs (pc, (.invokestatic i), n, x, 7, 104, ws) (a7 :: a6 :: a5 :: a4 :: a3 :: a2 :: a1 :: r) μ = some ([a1, a2, a3, a4, a5, a6, a7], r) := by
      obtain ⟨h1, h2, h3, h4, h5, h6, h7, h8⟩ := hc
      simp [zargs, zcat_ref, h1, h2, h3, h4, h5, h6, h7, h8]
      try omega
    rw [e]
    simp only [hc, true_and, and_self]
  · have e : zargs (pc, (.invokestatic i), n, x, 7, 104, ws) (a7 :: a6 :: a5 :: a4 :: a3 :: a2 :: a1 :: r) μ = none := by
      cases hz : zargs (pc, (.invokestatic i), n, x, 7, 104, ws) (a7 :: a6 :: a5 :: a4 :: a3 :: a2 :: a1 :: r) μ with
      | none => rfl
      | some q =>
        obtain ⟨as, rest⟩ := q
        obtain ⟨q1, q2, q3, q4, q5, q6⟩ := zargs_ok hz
        have q7 := List.append_inj (show [a7, a6, a5, a4, a3, a2, a1] ++ r = as.reverse ++ rest from q1) (by rw [List.length_reverse, q2]; rfl)
        obtain ⟨q8, rfl⟩ := q7
        have q9 : as = [a1, a2, a3, a4, a5, a6, a7] := by rw [← List.reverse_reverse as, ← q8]; rfl
        subst q9
        skip
        exact absurd (show a1.category = 1 ∧ a2.category = 1 ∧ a3.category = 1 ∧ a4.category = 1 ∧ a5.category = 1 ∧ a6.category = 1 ∧ a7.category = 1 ∧ r.length ≤ 4 from ⟨q4 a1 (by simp), q4 a2 (by simp), q4 a3 (by simp), q4 a4 (by simp), q4 a5 (by simp), q4 a6 (by simp), q4 a7 (by simp), q3⟩) hc
    rw [e]
    exact propext ⟨fun h => h.elim, fun h => hc (by simp only [h, and_self])⟩
end EQS
