/-- the family of a set of jobs, by its first -/
def famS (V : Nat → Nat) (S : Nat) : Nat := famR V S (V 9)
/-- END of the batches of a plan -/
def enR (V : Nat → Nat) (B : Nat → Nat) : Nat → Nat
  | 0 => tk V 3 (famS V (B 0))
  | i + 1 => enR V B i + tk V (famS V (B i)) (famS V (B (i + 1)))
def tmR (V : Nat → Nat) (B : Nat → Nat) (k : Nat) : Nat := if k = 0 then 0 else enR V B (k - 1)
def msR (m : Nat) (V : Nat → Nat) (B : Nat → Nat) : Nat → Nat
  | 0 => 0
  | k + 1 => jn m (msR m V B k) (lateR m V (B k) (enR V B k) (V 9))
/-- a measure of a plan -/
def meas (m : Nat) (V : Nat → Nat) (k : Nat) (B : Nat → Nat) : Nat := if m = 2 then tmR V B k else if m = 3 then k else msR m V B k
def orR (B : Nat → Nat) : Nat → Nat
  | 0 => 0
  | k + 1 => orR B k ||| B k
/-- END of the batch of a job: the first batch that has it -/
def eoR (V : Nat → Nat) (B : Nat → Nat) (j : Nat) : Nat → Nat → Option Nat
  | _, 0 => none
  | i, k + 1 => if (B i).testBit j then some (enR V B i) else eoR V B j (i + 1) k
def upN (B : Nat → Nat) (k x : Nat) : Nat → Nat := fun i => if i = k then x else B i
theorem enR_le {V B : Nat → Nat} (h : VOk V) : ∀ i, enR V B i ≤ 47 * (i + 1)
  | 0 => by have := tk_le h 3 (famS V (B 0)); simp [enR]; omega
  | i + 1 => by
    have h1 := enR_le (B := B) h i
    have h2 := tk_le h (famS V (B i)) (famS V (B (i + 1)))
    simp [enR]; omega
theorem enR_congr {V B B' : Nat → Nat} : ∀ i, (∀ j, j ≤ i → B j = B' j) → enR V B i = enR V B' i
  | 0, h => by simp [enR, h 0 (Nat.le_refl _)]
  | i + 1, h => by simp [enR, enR_congr i (fun j hj => h j (by omega)), h i (by omega), h (i + 1) (Nat.le_refl _)]
theorem famS_le {V : Nat → Nat} (h : VOk V) (S : Nat) : famS V S < 4 := by
  have := famR_le h S (V 9) h.2.2.2.2.1
  unfold famS; omega
set_option maxRecDepth 4000 in
theorem msR_le {m : Nat} {V B : Nat → Nat} (h : VOk V) : ∀ k, k ≤ 7 → msR m V B k ≤ k * 2400
  | 0, _ => by simp [msR]
  | k + 1, hk => by
    have h1 := msR_le (m := m) (B := B) h k (by omega)
    have h2 := enR_le (B := B) h k
    have h3 := lateR_le (m := m) (V := V) (S := B k) (e := enR V B k) (V 9)
    have h4 : V 9 * enR V B k ≤ 7 * 329 := Nat.mul_le_mul h.2.2.2.2.1 (by omega)
    have h6 : lateR m V (B k) (enR V B k) (V 9) ≤ 2400 := Nat.le_trans h3 (Nat.le_trans h4 (by decide))
    unfold msR jn
    rw [Nat.add_mul, Nat.one_mul]
    split
    · exact Nat.max_le.mpr ⟨Nat.le_trans h1 (Nat.le_add_right _ _), Nat.le_trans h6 (Nat.le_add_left _ _)⟩
    · exact Nat.add_le_add h1 h6
/-- a plan's cells hold the batches B -/
def PlAt (σ : Mem) (p : Nat) (V : Nat → Nat) (k : Nat) (B : Nat → Nat) : Prop := k ≤ 7 ∧ σ p 0 = nI k ∧ ∀ i, i < k → σ (p + 1) i = nI (B i) ∧ σ (p + 2) i = nI (enR V B i) ∧ B i < 128
theorem PlAt.b {σ : Mem} {p k : Nat} {V B : Nat → Nat} (h : PlAt σ p V k B) (i : Nat) (hi : i < k) : σ (p + 1) i = nI (B i) := (h.2.2 i hi).1
theorem PlAt.e {σ : Mem} {p k : Nat} {V B : Nat → Nat} (h : PlAt σ p V k B) (i : Nat) (hi : i < k) : σ (p + 2) i = nI (enR V B i) := (h.2.2 i hi).2.1
theorem PlAt.fr {σ τ : Mem} {p k : Nat} {V B : Nat → Nat} (h : PlAt σ p V k B) (h0 : ∀ a, p ≤ a → a ≤ p + 2 → τ a = σ a) : PlAt τ p V k B := by
  refine ⟨h.1, by rw [h0 p (by omega) (by omega)]; exact h.2.1, fun i hi => ?_⟩
  rw [h0 (p + 1) (by omega) (by omega), h0 (p + 2) (by omega) (by omega)]
  exact h.2.2 i hi
theorem ShAt.fr {σ τ : Mem} {b : Nat} {V : Nat → Nat} (h : ShAt σ b V) (h0 : ∀ a, b ≤ a → a ≤ b + 5 → τ a = σ a) : ShAt τ b V := by
  unfold ShAt
  rw [h0 b (by omega) (by omega), h0 (b + 1) (by omega) (by omega), h0 (b + 2) (by omega) (by omega), h0 (b + 3) (by omega) (by omega), h0 (b + 4) (by omega) (by omega), h0 (b + 5) (by omega) (by omega)]
  exact h
section PLANC
variable {G : Gp} {d : Nat} {Q : Option Value → Mem → Prop} {σ : Mem} {b p k : Nat} {V B : Nat → Nat}
theorem sp_clear (hp : IsPl p) (h : Q none (wr σ p 0 0)) : E G MX1_clear d 0 [some (.ref p)] [] σ Q := by
  apply kX1_clear_0
  simp only [ia1, ia2, ia3, ia4, inn, inm, i10, i01, i0n, i1n, i0m, i1m, o_push, o_iload, o_aload, o_istore, o_iinc, o_iadd, o_isub, o_imul, o_iand, o_ior, o_ixor, o_ishl, o_ishr, o_iushr, o_idiv, o_irem, o_ineg, o_dup, o_dup2, o_pop, o_if_eq, o_if_ne, o_if_lt, o_if_ge, o_if_gt, o_if_le, o_icmp_eq, o_icmp_ne, o_icmp_lt, o_icmp_ge, o_icmp_gt, o_icmp_le, o_nonnull, o_lsw2, o_iret, o_zret, o_vret, o_cV0, o_cV1, o_cV2, o_cV3, o_cV4, o_cV5, o_cV6, o_cS1, o_cS2, o_cS3, o_cS4, lg, lset, inB, pushv, c1, okr, at_, List.replicate, true_and, and_true, true_or, or_true, eq_self, forall_const, not_true_eq_false, not_false_eq_true, forall_eq, false_implies, true_implies,  List.length_nil, List.length_cons, Nat.zero_le, Nat.reduceAdd, Nat.reduceLeDiff, pP0 hp]
  exact h
theorem clear_at : PlAt (wr σ p 0 0) p V 0 B := ⟨by omega, by rw [wr_s]; exact n0, fun i hi => by omega⟩
theorem sp_time (hp : IsPl p) (hP : PlAt σ p V k B) (h : Q (some (.int (nI (tmR V B k)))) σ) : E G MX1_time d 0 [some (.ref p)] [] σ Q := by
  have hk := hP.1
  apply kX1_time_0
  simp (disch := omega) only [ia1, ia2, ia3, ia4, inn, inm, i10, i01, i0n, i1n, i0m, i1m, o_push, o_iload, o_aload, o_istore, o_iinc, o_iadd, o_isub, o_imul, o_iand, o_ior, o_ixor, o_ishl, o_ishr, o_iushr, o_idiv, o_irem, o_ineg, o_dup, o_dup2, o_pop, o_if_eq, o_if_ne, o_if_lt, o_if_ge, o_if_gt, o_if_le, o_icmp_eq, o_icmp_ne, o_icmp_lt, o_icmp_ge, o_icmp_gt, o_icmp_le, o_nonnull, o_lsw2, o_iret, o_zret, o_vret, o_cV0, o_cV1, o_cV2, o_cV3, o_cV4, o_cV5, o_cV6, o_cS1, o_cS2, o_cS3, o_cS4, lg, lset, inB, pushv, c1, okr, at_, List.replicate, true_and, and_true, true_or, or_true, eq_self, forall_const, not_true_eq_false, not_false_eq_true, forall_eq, false_implies, true_implies,  List.length_nil, List.length_cons, Nat.zero_le, Nat.reduceAdd, Nat.reduceLeDiff, gP0 hp, gP2 hp, hP.2.1, n0, n1, nEq]
  refine ⟨fun q => ?_, fun q => ?_⟩
  · simp (disch := omega) only [nSub, ld7 hp.2.2, hP.e]
    rw [tmR, if_neg q] at h
    exact h
  · rw [tmR, if_pos q] at h
    exact h
theorem sp_add {S : Nat} (hb : IsSh b) (hp : IsPl p) (hpb : p + 2 < b ∨ b + 5 < p) (hV : VOk V) (hs : ShAt σ b V) (hP : PlAt σ p V k B) (hk : k < 7) (hS0 : S ≠ 0) (hS : S < 128)
    (h : ∀ τ, (∀ a, a ≠ p → a ≠ p + 1 → a ≠ p + 2 → τ a = σ a) → PlAt τ p V (k + 1) (upN B k S) → Q none τ) : E G MX1_add (d + 2) 0 [some (.ref p), some (.ref b), some (.int (nI S)), none] [] σ Q := by
  have hj : ∀ x : Nat, x = (if k = 0 then 3 else famS V (B (k - 1))) → E G MX1_add (d + 2) 40 [some (.ref p), some (.ref b), some (.int (nI S)), none] [.int (nI x)] σ Q := by
    intro x hx
    have hx4 : x < 4 := by
      rw [hx]; split
      · omega
      · exact famS_le hV _
    apply kX1_add_40
    simp (disch := omega) only [ia1, ia2, ia3, ia4, inn, inm, i10, i01, i0n, i1n, i0m, i1m, o_push, o_iload, o_aload, o_istore, o_iinc, o_iadd, o_isub, o_imul, o_iand, o_ior, o_ixor, o_ishl, o_ishr, o_iushr, o_idiv, o_irem, o_ineg, o_dup, o_dup2, o_pop, o_if_eq, o_if_ne, o_if_lt, o_if_ge, o_if_gt, o_if_le, o_icmp_eq, o_icmp_ne, o_icmp_lt, o_icmp_ge, o_icmp_gt, o_icmp_le, o_nonnull, o_lsw2, o_iret, o_zret, o_vret, o_cV0, o_cV1, o_cV2, o_cV3, o_cV4, o_cV5, o_cV6, o_cS1, o_cS2, o_cS3, o_cS4, lg, lset, inB, pushv, c1, okr, at_, List.replicate, true_and, and_true, true_or, or_true, eq_self, forall_const, not_true_eq_false, not_false_eq_true, forall_eq, false_implies, true_implies,  List.length_nil, List.length_cons, Nat.zero_le, Nat.reduceAdd, Nat.reduceLeDiff, gP0 hp, gP1 hp, gP2 hp, hP.2.1, st7 hp.2.1, hp.k]
    have f1 : ∀ a, a ≠ p + 1 → wr σ (p + 1) k (nI S) a = σ a := fun a ha => wr_o ha
    have hs1 : ShAt (wr σ (p + 1) k (nI S)) b V := hs.fr (fun a h1 h2 => f1 a (by omega))
    have hP1 : PlAt (wr σ (p + 1) k (nI S)) p V k B := by
      refine ⟨hP.1, by rw [f1 p (by omega)]; exact hP.2.1, fun i hi => ?_⟩
      rw [wr_n (by omega), f1 (p + 2) (by omega)]
      exact hP.2.2 i hi
    refine sp_time hp hP1 ?_
    simp (disch := omega) only [ia1, ia2, ia3, ia4, inn, inm, i10, i01, i0n, i1n, i0m, i1m, o_push, o_iload, o_aload, o_istore, o_iinc, o_iadd, o_isub, o_imul, o_iand, o_ior, o_ixor, o_ishl, o_ishr, o_iushr, o_idiv, o_irem, o_ineg, o_dup, o_dup2, o_pop, o_if_eq, o_if_ne, o_if_lt, o_if_ge, o_if_gt, o_if_le, o_icmp_eq, o_icmp_ne, o_icmp_lt, o_icmp_ge, o_icmp_gt, o_icmp_le, o_nonnull, o_lsw2, o_iret, o_zret, o_vret, o_cV0, o_cV1, o_cV2, o_cV3, o_cV4, o_cV5, o_cV6, o_cS1, o_cS2, o_cS3, o_cS4, lg, lset, inB, pushv, c1, okr, at_, List.replicate, true_and, and_true, true_or, or_true, eq_self, forall_const, not_true_eq_false, not_false_eq_true, forall_eq, false_implies, true_implies,  List.length_nil, List.length_cons, Nat.zero_le, Nat.reduceAdd, Nat.reduceLeDiff, hb.k]
    refine sp_familyOfSet hb (by omega) hV hs1 ?_
    simp (disch := omega) only [ia1, ia2, ia3, ia4, inn, inm, i10, i01, i0n, i1n, i0m, i1m, o_push, o_iload, o_aload, o_istore, o_iinc, o_iadd, o_isub, o_imul, o_iand, o_ior, o_ixor, o_ishl, o_ishr, o_iushr, o_idiv, o_irem, o_ineg, o_dup, o_dup2, o_pop, o_if_eq, o_if_ne, o_if_lt, o_if_ge, o_if_gt, o_if_le, o_icmp_eq, o_icmp_ne, o_icmp_lt, o_icmp_ge, o_icmp_gt, o_icmp_le, o_nonnull, o_lsw2, o_iret, o_zret, o_vret, o_cV0, o_cV1, o_cV2, o_cV3, o_cV4, o_cV5, o_cV6, o_cS1, o_cS2, o_cS3, o_cS4, lg, lset, inB, pushv, c1, okr, at_, List.replicate, true_and, and_true, true_or, or_true, eq_self, forall_const, not_true_eq_false, not_false_eq_true, forall_eq, false_implies, true_implies,  List.length_nil, List.length_cons, Nat.zero_le, Nat.reduceAdd, Nat.reduceLeDiff, hb.k]
    refine sp_takes hb hV hs1 hx4 (famS_le hV S) ?_
    simp (disch := omega) only [ia1, ia2, ia3, ia4, inn, inm, i10, i01, i0n, i1n, i0m, i1m, o_push, o_iload, o_aload, o_istore, o_iinc, o_iadd, o_isub, o_imul, o_iand, o_ior, o_ixor, o_ishl, o_ishr, o_iushr, o_idiv, o_irem, o_ineg, o_dup, o_dup2, o_pop, o_if_eq, o_if_ne, o_if_lt, o_if_ge, o_if_gt, o_if_le, o_icmp_eq, o_icmp_ne, o_icmp_lt, o_icmp_ge, o_icmp_gt, o_icmp_le, o_nonnull, o_lsw2, o_iret, o_zret, o_vret, o_cV0, o_cV1, o_cV2, o_cV3, o_cV4, o_cV5, o_cV6, o_cS1, o_cS2, o_cS3, o_cS4, lg, lset, inB, pushv, c1, okr, at_, List.replicate, true_and, and_true, true_or, or_true, eq_self, forall_const, not_true_eq_false, not_false_eq_true, forall_eq, false_implies, true_implies,  List.length_nil, List.length_cons, Nat.zero_le, Nat.reduceAdd, Nat.reduceLeDiff, nI_add, wr_o, hP.2.1, st7 hp.2.2, gP0 hp, pP0 hp]
    generalize hv : (wr (wr σ (p + 1) k (nI S)) (p + 2) k (nI (tmR V B k + tk V x (famR V S (V 9))))) = σ2
    have f2 : ∀ a, a ≠ p + 1 → a ≠ p + 2 → σ2 a = σ a := fun a h1 h2 => by rw [← hv, wr_o h2, wr_o h1]
    rw [n1, nI_add]
    refine h _ (fun a h0 h1 h2 => by rw [wr_o h0, f2 a h1 h2]) ⟨by omega, wr_s, fun i hi => ?_⟩
    rw [wr_o (by omega), wr_o (by omega)]
    by_cases hik : i = k
    · subst hik
      refine ⟨?_, ?_, by simp [upN]; exact hS⟩
      · rw [← hv, wr_o (by omega), wr_s]
        simp [upN]
      · rw [← hv, wr_s]
        congr 1
        cases i with
        | zero => simp only [enR, tmR, upN, if_pos, famS] at hx ⊢; rw [hx]; simp
        | succ i =>
          have e1 : enR V (upN B (i + 1) S) i = enR V B i := enR_congr i (fun j hj => by simp [upN]; omega)
          simp only [enR, tmR, e1]
          rw [if_neg (by omega)] at hx ⊢
          simp only [upN, if_pos, Nat.add_sub_cancel] at hx ⊢
          rw [if_neg (by omega), hx]
          rfl
    · have e1 : enR V (upN B k S) i = enR V B i := enR_congr i (fun j hj => by simp [upN]; omega)
      have h3 := hP.2.2 i (by omega)
      rw [e1, ← hv]
      refine ⟨?_, ?_, by simp only [upN, if_neg hik]; exact h3.2.2⟩
      · rw [wr_o (by omega), wr_n (by omega)]
        simp only [upN, if_neg hik]
        exact h3.1
      · rw [wr_n (by omega), wr_o (by omega)]
        exact h3.2.1
  apply kX1_add_0
  simp (disch := omega) only [ia1, ia2, ia3, ia4, inn, inm, i10, i01, i0n, i1n, i0m, i1m, o_push, o_iload, o_aload, o_istore, o_iinc, o_iadd, o_isub, o_imul, o_iand, o_ior, o_ixor, o_ishl, o_ishr, o_iushr, o_idiv, o_irem, o_ineg, o_dup, o_dup2, o_pop, o_if_eq, o_if_ne, o_if_lt, o_if_ge, o_if_gt, o_if_le, o_icmp_eq, o_icmp_ne, o_icmp_lt, o_icmp_ge, o_icmp_gt, o_icmp_le, o_nonnull, o_lsw2, o_iret, o_zret, o_vret, o_cV0, o_cV1, o_cV2, o_cV3, o_cV4, o_cV5, o_cV6, o_cS1, o_cS2, o_cS3, o_cS4, lg, lset, inB, pushv, c1, okr, at_, List.replicate, true_and, and_true, true_or, or_true, eq_self, forall_const, not_true_eq_false, not_false_eq_true, forall_eq, false_implies, true_implies,  List.length_nil, List.length_cons, Nat.zero_le, Nat.reduceAdd, Nat.reduceLeDiff, gP0 hp, gP1 hp, hP.2.1, n7, n0, n1, n3, nLe, nEq]
  refine ⟨fun q => absurd q (by omega), fun _ => ⟨fun _ => ⟨fun q => ?_, fun q => ?_⟩, fun q => absurd q hS0⟩⟩
  · simp (disch := omega) only [ia1, ia2, ia3, ia4, inn, inm, i10, i01, i0n, i1n, i0m, i1m, o_push, o_iload, o_aload, o_istore, o_iinc, o_iadd, o_isub, o_imul, o_iand, o_ior, o_ixor, o_ishl, o_ishr, o_iushr, o_idiv, o_irem, o_ineg, o_dup, o_dup2, o_pop, o_if_eq, o_if_ne, o_if_lt, o_if_ge, o_if_gt, o_if_le, o_icmp_eq, o_icmp_ne, o_icmp_lt, o_icmp_ge, o_icmp_gt, o_icmp_le, o_nonnull, o_lsw2, o_iret, o_zret, o_vret, o_cV0, o_cV1, o_cV2, o_cV3, o_cV4, o_cV5, o_cV6, o_cS1, o_cS2, o_cS3, o_cS4, lg, lset, inB, pushv, c1, okr, at_, List.replicate, true_and, and_true, true_or, or_true, eq_self, forall_const, not_true_eq_false, not_false_eq_true, forall_eq, false_implies, true_implies,  List.length_nil, List.length_cons, Nat.zero_le, Nat.reduceAdd, Nat.reduceLeDiff, nSub, ld7 hp.2.1, hP.b, hb.k]
    have hB := (hP.2.2 (k - 1) (by omega)).2.2
    refine sp_familyOfSet hb (by omega) hV hs ?_
    simp only [ia1, ia2, ia3, ia4, inn, inm, i10, i01, i0n, i1n, i0m, i1m, o_push, o_iload, o_aload, o_istore, o_iinc, o_iadd, o_isub, o_imul, o_iand, o_ior, o_ixor, o_ishl, o_ishr, o_iushr, o_idiv, o_irem, o_ineg, o_dup, o_dup2, o_pop, o_if_eq, o_if_ne, o_if_lt, o_if_ge, o_if_gt, o_if_le, o_icmp_eq, o_icmp_ne, o_icmp_lt, o_icmp_ge, o_icmp_gt, o_icmp_le, o_nonnull, o_lsw2, o_iret, o_zret, o_vret, o_cV0, o_cV1, o_cV2, o_cV3, o_cV4, o_cV5, o_cV6, o_cS1, o_cS2, o_cS3, o_cS4, lg, lset, inB, pushv, c1, okr, at_, List.replicate, true_and, and_true, true_or, or_true, eq_self, forall_const, not_true_eq_false, not_false_eq_true, forall_eq, false_implies, true_implies,  List.length_nil, List.length_cons, Nat.zero_le, Nat.reduceAdd, Nat.reduceLeDiff]
    exact hj _ (by rw [if_neg q]; rfl)
  · exact hj 3 (by rw [if_pos q])
theorem orR_lt (h : ∀ i, i < k → B i < 128) : ∀ j, j ≤ k → orR B j < 128
  | 0, _ => by simp [orR]
  | j + 1, hj => Nat.or_lt_two_pow (n := 7) (orR_lt h j (by omega)) (h j (by omega))
theorem sp_members (hp : IsPl p) (hP : PlAt σ p V k B) (h : Q (some (.int (nI (orR B k)))) σ) : E G MX1_members d 0 [some (.ref p), none, none] [] σ Q := by
  have hk := hP.1
  apply kX1_members_0
  simp only [ia1, ia2, ia3, ia4, inn, inm, i10, i01, i0n, i1n, i0m, i1m, o_push, o_iload, o_aload, o_istore, o_iinc, o_iadd, o_isub, o_imul, o_iand, o_ior, o_ixor, o_ishl, o_ishr, o_iushr, o_idiv, o_irem, o_ineg, o_dup, o_dup2, o_pop, o_if_eq, o_if_ne, o_if_lt, o_if_ge, o_if_gt, o_if_le, o_icmp_eq, o_icmp_ne, o_icmp_lt, o_icmp_ge, o_icmp_gt, o_icmp_le, o_nonnull, o_lsw2, o_iret, o_zret, o_vret, o_cV0, o_cV1, o_cV2, o_cV3, o_cV4, o_cV5, o_cV6, o_cS1, o_cS2, o_cS3, o_cS4, lg, lset, inB, pushv, c1, okr, at_, List.replicate, true_and, and_true, true_or, or_true, eq_self, forall_const, not_true_eq_false, not_false_eq_true, forall_eq, false_implies, true_implies,  List.length_nil, List.length_cons, Nat.zero_le, Nat.reduceAdd, Nat.reduceLeDiff, n0]
  suffices H : ∀ i j, i + j = k → E G MX1_members d 4 [some (.ref p), some (.int (nI (orR B j))), some (.int (nI j))] [] σ Q from H k 0 (by omega)
  intro i
  induction i with
  | zero =>
    intro j hj
    obtain rfl : j = k := by omega
    apply kX1_members_4
    simp (disch := omega) only [ia1, ia2, ia3, ia4, inn, inm, i10, i01, i0n, i1n, i0m, i1m, o_push, o_iload, o_aload, o_istore, o_iinc, o_iadd, o_isub, o_imul, o_iand, o_ior, o_ixor, o_ishl, o_ishr, o_iushr, o_idiv, o_irem, o_ineg, o_dup, o_dup2, o_pop, o_if_eq, o_if_ne, o_if_lt, o_if_ge, o_if_gt, o_if_le, o_icmp_eq, o_icmp_ne, o_icmp_lt, o_icmp_ge, o_icmp_gt, o_icmp_le, o_nonnull, o_lsw2, o_iret, o_zret, o_vret, o_cV0, o_cV1, o_cV2, o_cV3, o_cV4, o_cV5, o_cV6, o_cS1, o_cS2, o_cS3, o_cS4, lg, lset, inB, pushv, c1, okr, at_, List.replicate, true_and, and_true, true_or, or_true, eq_self, forall_const, not_true_eq_false, not_false_eq_true, forall_eq, false_implies, true_implies,  List.length_nil, List.length_cons, Nat.zero_le, Nat.reduceAdd, Nat.reduceLeDiff, gP0 hp, hP.2.1, nLe]
    exact ⟨fun _ => h, fun q => absurd (Nat.le_refl _) q⟩
  | succ i ih =>
    intro j hj
    apply kX1_members_4
    simp (disch := omega) only [ia1, ia2, ia3, ia4, inn, inm, i10, i01, i0n, i1n, i0m, i1m, o_push, o_iload, o_aload, o_istore, o_iinc, o_iadd, o_isub, o_imul, o_iand, o_ior, o_ixor, o_ishl, o_ishr, o_iushr, o_idiv, o_irem, o_ineg, o_dup, o_dup2, o_pop, o_if_eq, o_if_ne, o_if_lt, o_if_ge, o_if_gt, o_if_le, o_icmp_eq, o_icmp_ne, o_icmp_lt, o_icmp_ge, o_icmp_gt, o_icmp_le, o_nonnull, o_lsw2, o_iret, o_zret, o_vret, o_cV0, o_cV1, o_cV2, o_cV3, o_cV4, o_cV5, o_cV6, o_cS1, o_cS2, o_cS3, o_cS4, lg, lset, inB, pushv, c1, okr, at_, List.replicate, true_and, and_true, true_or, or_true, eq_self, forall_const, not_true_eq_false, not_false_eq_true, forall_eq, false_implies, true_implies,  List.length_nil, List.length_cons, Nat.zero_le, Nat.reduceAdd, Nat.reduceLeDiff, gP0 hp, gP1 hp, hP.2.1, nLe, ld7 hp.2.1, hP.b, fa_or, nI_1]
    exact ⟨fun q => absurd q (by omega), fun _ => ih (j + 1) (by omega)⟩
/-- what a plan tells of its batch b -/
def bhm (k : Nat) (B : Nat → Nat) (x : Int32) : Int32 := if x = -1 then nI k else if 0 ≤ x ∧ x ≤ nI k - 1 then nI (B x.toNatClampNeg) else -6
theorem sp_batchOrHowMany {x : Int32} (hp : IsPl p) (hP : PlAt σ p V k B) (h : Q (some (.int (bhm k B x))) σ) : E G MX1_batchOrHowMany (d + 1) 0 [some (.ref p), some (.int x)] [] σ Q := by
  have hk := hP.1
  apply kX1_batchOrHowMany_0
  simp only [ia1, ia2, ia3, ia4, inn, inm, i10, i01, i0n, i1n, i0m, i1m, o_push, o_iload, o_aload, o_istore, o_iinc, o_iadd, o_isub, o_imul, o_iand, o_ior, o_ixor, o_ishl, o_ishr, o_iushr, o_idiv, o_irem, o_ineg, o_dup, o_dup2, o_pop, o_if_eq, o_if_ne, o_if_lt, o_if_ge, o_if_gt, o_if_le, o_icmp_eq, o_icmp_ne, o_icmp_lt, o_icmp_ge, o_icmp_gt, o_icmp_le, o_nonnull, o_lsw2, o_iret, o_zret, o_vret, o_cV0, o_cV1, o_cV2, o_cV3, o_cV4, o_cV5, o_cV6, o_cS1, o_cS2, o_cS3, o_cS4, lg, lset, inB, pushv, c1, okr, at_, List.replicate, true_and, and_true, true_or, or_true, eq_self, forall_const, not_true_eq_false, not_false_eq_true, forall_eq, false_implies, true_implies,  List.length_nil, List.length_cons, Nat.zero_le, Nat.reduceAdd, Nat.reduceLeDiff, gP0 hp, hP.2.1]
  refine ⟨fun q => sp_isWithin (fun h1 => ?_) (fun h1 => ?_), fun q => ?_⟩
  · simp only [ia1, ia2, ia3, ia4, inn, inm, i10, i01, i0n, i1n, i0m, i1m, o_push, o_iload, o_aload, o_istore, o_iinc, o_iadd, o_isub, o_imul, o_iand, o_ior, o_ixor, o_ishl, o_ishr, o_iushr, o_idiv, o_irem, o_ineg, o_dup, o_dup2, o_pop, o_if_eq, o_if_ne, o_if_lt, o_if_ge, o_if_gt, o_if_le, o_icmp_eq, o_icmp_ne, o_icmp_lt, o_icmp_ge, o_icmp_gt, o_icmp_le, o_nonnull, o_lsw2, o_iret, o_zret, o_vret, o_cV0, o_cV1, o_cV2, o_cV3, o_cV4, o_cV5, o_cV6, o_cS1, o_cS2, o_cS3, o_cS4, lg, lset, inB, pushv, c1, okr, at_, List.replicate, true_and, and_true, true_or, or_true, eq_self, forall_const, not_true_eq_false, not_false_eq_true, forall_eq, false_implies, true_implies,  List.length_nil, List.length_cons, Nat.zero_le, Nat.reduceAdd, Nat.reduceLeDiff, gP1 hp]
    rw [bhm, if_neg q, if_pos h1] at h
    obtain ⟨j, hj, rfl⟩ : ∃ j : Nat, j < k ∧ x = nI j := by
      obtain ⟨j, hj1, hj2⟩ := nI_of (x := x) (Int32.not_lt.mpr h1.1)
      refine ⟨j, ?_, hj2⟩
      have h2 := h1.2
      rw [hj2, n1, Int32.le_iff_toInt_le, pk_sub_toInt (by omega) (by omega), nI_toInt hj1] at h2
      omega
    rw [nI_clamp (by omega)] at h
    simp (disch := omega) only [ld7 hp.2.1, hP.b]
    exact h
  · simp only [ia1, ia2, ia3, ia4, inn, inm, i10, i01, i0n, i1n, i0m, i1m, o_push, o_iload, o_aload, o_istore, o_iinc, o_iadd, o_isub, o_imul, o_iand, o_ior, o_ixor, o_ishl, o_ishr, o_iushr, o_idiv, o_irem, o_ineg, o_dup, o_dup2, o_pop, o_if_eq, o_if_ne, o_if_lt, o_if_ge, o_if_gt, o_if_le, o_icmp_eq, o_icmp_ne, o_icmp_lt, o_icmp_ge, o_icmp_gt, o_icmp_le, o_nonnull, o_lsw2, o_iret, o_zret, o_vret, o_cV0, o_cV1, o_cV2, o_cV3, o_cV4, o_cV5, o_cV6, o_cS1, o_cS2, o_cS3, o_cS4, lg, lset, inB, pushv, c1, okr, at_, List.replicate, true_and, and_true, true_or, or_true, eq_self, forall_const, not_true_eq_false, not_false_eq_true, forall_eq, false_implies, true_implies,  List.length_nil, List.length_cons, Nat.zero_le, Nat.reduceAdd, Nat.reduceLeDiff]
    rw [bhm, if_neg q, if_neg h1] at h
    exact h
  · rw [bhm, if_pos q] at h
    exact h
/-- an answer that may be none -/
def orNone (x : Option Nat) : Int32 := match x with
  | none => -6
  | some v => nI v
theorem sp_endOf {j : Nat} (hj : j < 31) (hp : IsPl p) (hP : PlAt σ p V k B) (h : Q (some (.int (orNone (eoR V B j 0 k)))) σ) : E G MX1_endOf (d + 1) 0 [some (.ref p), some (.int (nI j)), none] [] σ Q := by
  have hk := hP.1
  apply kX1_endOf_0
  simp only [ia1, ia2, ia3, ia4, inn, inm, i10, i01, i0n, i1n, i0m, i1m, o_push, o_iload, o_aload, o_istore, o_iinc, o_iadd, o_isub, o_imul, o_iand, o_ior, o_ixor, o_ishl, o_ishr, o_iushr, o_idiv, o_irem, o_ineg, o_dup, o_dup2, o_pop, o_if_eq, o_if_ne, o_if_lt, o_if_ge, o_if_gt, o_if_le, o_icmp_eq, o_icmp_ne, o_icmp_lt, o_icmp_ge, o_icmp_gt, o_icmp_le, o_nonnull, o_lsw2, o_iret, o_zret, o_vret, o_cV0, o_cV1, o_cV2, o_cV3, o_cV4, o_cV5, o_cV6, o_cS1, o_cS2, o_cS3, o_cS4, lg, lset, inB, pushv, c1, okr, at_, List.replicate, true_and, and_true, true_or, or_true, eq_self, forall_const, not_true_eq_false, not_false_eq_true, forall_eq, false_implies, true_implies,  List.length_nil, List.length_cons, Nat.zero_le, Nat.reduceAdd, Nat.reduceLeDiff, n0]
  suffices H : ∀ i c, i + c = k → Q (some (.int (orNone (eoR V B j c i)))) σ → E G MX1_endOf (d + 1) 2 [some (.ref p), some (.int (nI j)), some (.int (nI c))] [] σ Q from H k 0 (by omega) h
  clear h
  intro i
  induction i with
  | zero =>
    intro c hc h
    apply kX1_endOf_2
    simp (disch := omega) only [ia1, ia2, ia3, ia4, inn, inm, i10, i01, i0n, i1n, i0m, i1m, o_push, o_iload, o_aload, o_istore, o_iinc, o_iadd, o_isub, o_imul, o_iand, o_ior, o_ixor, o_ishl, o_ishr, o_iushr, o_idiv, o_irem, o_ineg, o_dup, o_dup2, o_pop, o_if_eq, o_if_ne, o_if_lt, o_if_ge, o_if_gt, o_if_le, o_icmp_eq, o_icmp_ne, o_icmp_lt, o_icmp_ge, o_icmp_gt, o_icmp_le, o_nonnull, o_lsw2, o_iret, o_zret, o_vret, o_cV0, o_cV1, o_cV2, o_cV3, o_cV4, o_cV5, o_cV6, o_cS1, o_cS2, o_cS3, o_cS4, lg, lset, inB, pushv, c1, okr, at_, List.replicate, true_and, and_true, true_or, or_true, eq_self, forall_const, not_true_eq_false, not_false_eq_true, forall_eq, false_implies, true_implies,  List.length_nil, List.length_cons, Nat.zero_le, Nat.reduceAdd, Nat.reduceLeDiff, gP0 hp, hP.2.1, nLe]
    exact ⟨fun _ => h, fun q => absurd (by omega) q⟩
  | succ i ih =>
    intro c hc h
    have hB := (hP.2.2 c (by omega)).2.2
    apply kX1_endOf_2
    simp (disch := omega) only [ia1, ia2, ia3, ia4, inn, inm, i10, i01, i0n, i1n, i0m, i1m, o_push, o_iload, o_aload, o_istore, o_iinc, o_iadd, o_isub, o_imul, o_iand, o_ior, o_ixor, o_ishl, o_ishr, o_iushr, o_idiv, o_irem, o_ineg, o_dup, o_dup2, o_pop, o_if_eq, o_if_ne, o_if_lt, o_if_ge, o_if_gt, o_if_le, o_icmp_eq, o_icmp_ne, o_icmp_lt, o_icmp_ge, o_icmp_gt, o_icmp_le, o_nonnull, o_lsw2, o_iret, o_zret, o_vret, o_cV0, o_cV1, o_cV2, o_cV3, o_cV4, o_cV5, o_cV6, o_cS1, o_cS2, o_cS3, o_cS4, lg, lset, inB, pushv, c1, okr, at_, List.replicate, true_and, and_true, true_or, or_true, eq_self, forall_const, not_true_eq_false, not_false_eq_true, forall_eq, false_implies, true_implies,  List.length_nil, List.length_cons, Nat.zero_le, Nat.reduceAdd, Nat.reduceLeDiff, gP0 hp, gP1 hp, gP2 hp, hP.2.1, nLe, ld7 hp.2.1, ld7 hp.2.2, hP.b, nI_1]
    refine ⟨fun q => absurd q (by omega), fun _ => sp_contains (by omega) hj (fun hbit => ?_) (fun hbit => ?_)⟩
    · simp (disch := omega) only [ia1, ia2, ia3, ia4, inn, inm, i10, i01, i0n, i1n, i0m, i1m, o_push, o_iload, o_aload, o_istore, o_iinc, o_iadd, o_isub, o_imul, o_iand, o_ior, o_ixor, o_ishl, o_ishr, o_iushr, o_idiv, o_irem, o_ineg, o_dup, o_dup2, o_pop, o_if_eq, o_if_ne, o_if_lt, o_if_ge, o_if_gt, o_if_le, o_icmp_eq, o_icmp_ne, o_icmp_lt, o_icmp_ge, o_icmp_gt, o_icmp_le, o_nonnull, o_lsw2, o_iret, o_zret, o_vret, o_cV0, o_cV1, o_cV2, o_cV3, o_cV4, o_cV5, o_cV6, o_cS1, o_cS2, o_cS3, o_cS4, lg, lset, inB, pushv, c1, okr, at_, List.replicate, true_and, and_true, true_or, or_true, eq_self, forall_const, not_true_eq_false, not_false_eq_true, forall_eq, false_implies, true_implies,  List.length_nil, List.length_cons, Nat.zero_le, Nat.reduceAdd, Nat.reduceLeDiff, hP.e]
      rw [eoR, if_pos hbit] at h
      exact h
    · simp only [ia1, ia2, ia3, ia4, inn, inm, i10, i01, i0n, i1n, i0m, i1m, o_push, o_iload, o_aload, o_istore, o_iinc, o_iadd, o_isub, o_imul, o_iand, o_ior, o_ixor, o_ishl, o_ishr, o_iushr, o_idiv, o_irem, o_ineg, o_dup, o_dup2, o_pop, o_if_eq, o_if_ne, o_if_lt, o_if_ge, o_if_gt, o_if_le, o_icmp_eq, o_icmp_ne, o_icmp_lt, o_icmp_ge, o_icmp_gt, o_icmp_le, o_nonnull, o_lsw2, o_iret, o_zret, o_vret, o_cV0, o_cV1, o_cV2, o_cV3, o_cV4, o_cV5, o_cV6, o_cS1, o_cS2, o_cS3, o_cS4, lg, lset, inB, pushv, c1, okr, at_, List.replicate, true_and, and_true, true_or, or_true, eq_self, forall_const, not_true_eq_false, not_false_eq_true, forall_eq, false_implies, true_implies,  List.length_nil, List.length_cons, Nat.zero_le, Nat.reduceAdd, Nat.reduceLeDiff]
      rw [eoR, if_neg (by simp [hbit])] at h
      exact ih (c + 1) (by omega) h
theorem sp_measured {m : Nat} (hm : m < 4) (hb : IsSh b) (hp : IsPl p) (hV : VOk V) (hs : ShAt σ b V) (hP : PlAt σ p V k B) (h : Q (some (.int (nI (meas m V k B)))) σ) : E G MX1_measured (d + 2) 0 [some (.ref p), some (.ref b), some (.int (nI m)), none, none] [] σ Q := by
  have hk := hP.1
  apply kX1_measured_0
  simp (disch := omega) only [ia1, ia2, ia3, ia4, inn, inm, i10, i01, i0n, i1n, i0m, i1m, o_push, o_iload, o_aload, o_istore, o_iinc, o_iadd, o_isub, o_imul, o_iand, o_ior, o_ixor, o_ishl, o_ishr, o_iushr, o_idiv, o_irem, o_ineg, o_dup, o_dup2, o_pop, o_if_eq, o_if_ne, o_if_lt, o_if_ge, o_if_gt, o_if_le, o_icmp_eq, o_icmp_ne, o_icmp_lt, o_icmp_ge, o_icmp_gt, o_icmp_le, o_nonnull, o_lsw2, o_iret, o_zret, o_vret, o_cV0, o_cV1, o_cV2, o_cV3, o_cV4, o_cV5, o_cV6, o_cS1, o_cS2, o_cS3, o_cS4, lg, lset, inB, pushv, c1, okr, at_, List.replicate, true_and, and_true, true_or, or_true, eq_self, forall_const, not_true_eq_false, not_false_eq_true, forall_eq, false_implies, true_implies,  List.length_nil, List.length_cons, Nat.zero_le, Nat.reduceAdd, Nat.reduceLeDiff, n0, n2, n3, nEq, gP0 hp, hP.2.1, hp.k]
  refine ⟨fun q2 => ⟨fun q3 => ?_, fun q3 => ?_⟩, fun q2 => ?_⟩
  · rw [meas, if_neg q2, if_neg q3] at h
    suffices H : ∀ i c, i + c = k → E G MX1_measured (d + 2) 25 [some (.ref p), some (.ref b), some (.int (nI m)), some (.int (nI (msR m V B c))), some (.int (nI c))] [] σ Q from H k 0 (by omega)
    intro i
    induction i with
    | zero =>
      intro c hc
      obtain rfl : c = k := by omega
      apply kX1_measured_25
      simp (disch := omega) only [ia1, ia2, ia3, ia4, inn, inm, i10, i01, i0n, i1n, i0m, i1m, o_push, o_iload, o_aload, o_istore, o_iinc, o_iadd, o_isub, o_imul, o_iand, o_ior, o_ixor, o_ishl, o_ishr, o_iushr, o_idiv, o_irem, o_ineg, o_dup, o_dup2, o_pop, o_if_eq, o_if_ne, o_if_lt, o_if_ge, o_if_gt, o_if_le, o_icmp_eq, o_icmp_ne, o_icmp_lt, o_icmp_ge, o_icmp_gt, o_icmp_le, o_nonnull, o_lsw2, o_iret, o_zret, o_vret, o_cV0, o_cV1, o_cV2, o_cV3, o_cV4, o_cV5, o_cV6, o_cS1, o_cS2, o_cS3, o_cS4, lg, lset, inB, pushv, c1, okr, at_, List.replicate, true_and, and_true, true_or, or_true, eq_self, forall_const, not_true_eq_false, not_false_eq_true, forall_eq, false_implies, true_implies,  List.length_nil, List.length_cons, Nat.zero_le, Nat.reduceAdd, Nat.reduceLeDiff, gP0 hp, hP.2.1, nLe]
      exact ⟨fun _ => h, fun q => absurd (Nat.le_refl _) q⟩
    | succ i ih =>
      intro c hc
      have hB := (hP.2.2 c (by omega)).2.2
      have he := enR_le (B := B) hV c
      have hl := lateR_le (m := m) (V := V) (S := B c) (e := enR V B c) (V 9)
      have hn := hV.2.2.2.2.1
      have h4 : V 9 * enR V B c ≤ 7 * 329 := Nat.mul_le_mul hn (by omega)
      have h5 := msR_le (m := m) (B := B) hV c (by omega)
      apply kX1_measured_25
      simp (disch := omega) only [ia1, ia2, ia3, ia4, inn, inm, i10, i01, i0n, i1n, i0m, i1m, o_push, o_iload, o_aload, o_istore, o_iinc, o_iadd, o_isub, o_imul, o_iand, o_ior, o_ixor, o_ishl, o_ishr, o_iushr, o_idiv, o_irem, o_ineg, o_dup, o_dup2, o_pop, o_if_eq, o_if_ne, o_if_lt, o_if_ge, o_if_gt, o_if_le, o_icmp_eq, o_icmp_ne, o_icmp_lt, o_icmp_ge, o_icmp_gt, o_icmp_le, o_nonnull, o_lsw2, o_iret, o_zret, o_vret, o_cV0, o_cV1, o_cV2, o_cV3, o_cV4, o_cV5, o_cV6, o_cS1, o_cS2, o_cS3, o_cS4, lg, lset, inB, pushv, c1, okr, at_, List.replicate, true_and, and_true, true_or, or_true, eq_self, forall_const, not_true_eq_false, not_false_eq_true, forall_eq, false_implies, true_implies,  List.length_nil, List.length_cons, Nat.zero_le, Nat.reduceAdd, Nat.reduceLeDiff, gP0 hp, gP1 hp, gP2 hp, hP.2.1, nLe, ld7 hp.2.1, ld7 hp.2.2, hP.b, hP.e, nI_1, hb.k]
      refine ⟨fun q => absurd q (by omega), fun _ => sp_late hb hm (by omega) (by omega) hV hs ?_⟩
      simp (disch := omega) only [ia1, ia2, ia3, ia4, inn, inm, i10, i01, i0n, i1n, i0m, i1m, o_push, o_iload, o_aload, o_istore, o_iinc, o_iadd, o_isub, o_imul, o_iand, o_ior, o_ixor, o_ishl, o_ishr, o_iushr, o_idiv, o_irem, o_ineg, o_dup, o_dup2, o_pop, o_if_eq, o_if_ne, o_if_lt, o_if_ge, o_if_gt, o_if_le, o_icmp_eq, o_icmp_ne, o_icmp_lt, o_icmp_ge, o_icmp_gt, o_icmp_le, o_nonnull, o_lsw2, o_iret, o_zret, o_vret, o_cV0, o_cV1, o_cV2, o_cV3, o_cV4, o_cV5, o_cV6, o_cS1, o_cS2, o_cS3, o_cS4, lg, lset, inB, pushv, c1, okr, at_, List.replicate, true_and, and_true, true_or, or_true, eq_self, forall_const, not_true_eq_false, not_false_eq_true, forall_eq, false_implies, true_implies,  List.length_nil, List.length_cons, Nat.zero_le, Nat.reduceAdd, Nat.reduceLeDiff]
      refine sp_joined (by omega) (by omega) (by omega) ?_
      simp (disch := omega) only [ia1, ia2, ia3, ia4, inn, inm, i10, i01, i0n, i1n, i0m, i1m, o_push, o_iload, o_aload, o_istore, o_iinc, o_iadd, o_isub, o_imul, o_iand, o_ior, o_ixor, o_ishl, o_ishr, o_iushr, o_idiv, o_irem, o_ineg, o_dup, o_dup2, o_pop, o_if_eq, o_if_ne, o_if_lt, o_if_ge, o_if_gt, o_if_le, o_icmp_eq, o_icmp_ne, o_icmp_lt, o_icmp_ge, o_icmp_gt, o_icmp_le, o_nonnull, o_lsw2, o_iret, o_zret, o_vret, o_cV0, o_cV1, o_cV2, o_cV3, o_cV4, o_cV5, o_cV6, o_cS1, o_cS2, o_cS3, o_cS4, lg, lset, inB, pushv, c1, okr, at_, List.replicate, true_and, and_true, true_or, or_true, eq_self, forall_const, not_true_eq_false, not_false_eq_true, forall_eq, false_implies, true_implies,  List.length_nil, List.length_cons, Nat.zero_le, Nat.reduceAdd, Nat.reduceLeDiff, nI_1]
      exact ih (c + 1) (by omega)
  · rw [meas, if_neg q2, if_pos q3] at h
    exact h
  · rw [meas, if_pos q2] at h
    refine sp_time hp hP ?_
    simp only [ia1, ia2, ia3, ia4, inn, inm, i10, i01, i0n, i1n, i0m, i1m, o_push, o_iload, o_aload, o_istore, o_iinc, o_iadd, o_isub, o_imul, o_iand, o_ior, o_ixor, o_ishl, o_ishr, o_iushr, o_idiv, o_irem, o_ineg, o_dup, o_dup2, o_pop, o_if_eq, o_if_ne, o_if_lt, o_if_ge, o_if_gt, o_if_le, o_icmp_eq, o_icmp_ne, o_icmp_lt, o_icmp_ge, o_icmp_gt, o_icmp_le, o_nonnull, o_lsw2, o_iret, o_zret, o_vret, o_cV0, o_cV1, o_cV2, o_cV3, o_cV4, o_cV5, o_cV6, o_cS1, o_cS2, o_cS3, o_cS4, lg, lset, inB, pushv, c1, okr, at_, List.replicate, true_and, and_true, true_or, or_true, eq_self, forall_const, not_true_eq_false, not_false_eq_true, forall_eq, false_implies, true_implies,  List.length_nil, List.length_cons, Nat.zero_le, Nat.reduceAdd, Nat.reduceLeDiff]
    exact h
end PLANC
