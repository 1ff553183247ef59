/-! the rule of the reference -/
def tgv (V : Nat → Nat) (p : Nat → Bool) (n : Nat) : Int32 := if tgQ V p n = 0 then -6 else nI (tgQ V p n - 1)
def pp (V : Nat → Nat) (l F rm : Nat) : Nat → Bool := fun j => l.testBit j && decide (V (10 + j) = F) && decide (V (17 + j) ≤ rm)
section RULEM
variable {G : Gp} {d : Nat} {Q : Option Value → Mem → Prop} {σ : Mem} {V B : Nat → Nat}
theorem r_isTighter {a n : Nat} (hV : VOk V) (hR : RAt σ V) (ha : a < V 9) (hn : n ≤ V 9) (h1 : (n = 0 ∨ tN V a < tN V (n - 1)) → Q (some (.int 1)) σ) (h0 : ¬ (n = 0 ∨ tN V a < tN V (n - 1)) → Q (some (.int 0)) σ) : E G MX5_isTighter (d + 2) 0 [some (.ref 57), some (.int (nI a)), some (.int (if n = 0 then -6 else nI (n - 1)))] [] σ Q := by
  have h7 := hV.2.2.2.2.1
  apply kX5_isTighter_0
  simp only [ia1, ia2, ia3, ia4, inn, inm, i10, i01, i0n, i1n, i0m, i1m, o_push, o_iload, o_aload, o_istore, o_iinc, o_iadd, o_isub, o_imul, o_iand, o_ior, o_ixor, o_ishl, o_ishr, o_iushr, o_idiv, o_irem, o_ineg, o_dup, o_dup2, o_pop, o_if_eq, o_if_ne, o_if_lt, o_if_ge, o_if_gt, o_if_le, o_icmp_eq, o_icmp_ne, o_icmp_lt, o_icmp_ge, o_icmp_gt, o_icmp_le, o_nonnull, o_lsw2, o_iret, o_zret, o_vret, o_cV0, o_cV1, o_cV2, o_cV3, o_cV4, o_cV5, o_cV6, o_cS1, o_cS2, o_cS3, o_cS4, lg, lset, inB, pushv, c1, okr, at_, List.replicate, true_and, and_true, true_or, or_true, eq_self, forall_const, not_true_eq_false, not_false_eq_true, forall_eq, false_implies, true_implies,  List.length_nil, List.length_cons, Nat.zero_le, Nat.reduceAdd, Nat.reduceLeDiff, sh57k]
  by_cases hz : n = 0
  · rw [if_pos hz]
    exact ⟨fun _ => h1 (Or.inl hz), fun z => absurd n6neg z⟩
  · rw [if_neg hz]
    refine ⟨fun z => absurd z (nI_pos (by omega)), fun _ => r_tight hV ha hR ?_⟩
    simp only [ia1, ia2, ia3, ia4, inn, inm, i10, i01, i0n, i1n, i0m, i1m, o_push, o_iload, o_aload, o_istore, o_iinc, o_iadd, o_isub, o_imul, o_iand, o_ior, o_ixor, o_ishl, o_ishr, o_iushr, o_idiv, o_irem, o_ineg, o_dup, o_dup2, o_pop, o_if_eq, o_if_ne, o_if_lt, o_if_ge, o_if_gt, o_if_le, o_icmp_eq, o_icmp_ne, o_icmp_lt, o_icmp_ge, o_icmp_gt, o_icmp_le, o_nonnull, o_lsw2, o_iret, o_zret, o_vret, o_cV0, o_cV1, o_cV2, o_cV3, o_cV4, o_cV5, o_cV6, o_cS1, o_cS2, o_cS3, o_cS4, lg, lset, inB, pushv, c1, okr, at_, List.replicate, true_and, and_true, true_or, or_true, eq_self, forall_const, not_true_eq_false, not_false_eq_true, forall_eq, false_implies, true_implies,  List.length_nil, List.length_cons, Nat.zero_le, Nat.reduceAdd, Nat.reduceLeDiff, sh57k]
    refine r_tight hV (by omega) hR ?_
    simp only [ia1, ia2, ia3, ia4, inn, inm, i10, i01, i0n, i1n, i0m, i1m, o_push, o_iload, o_aload, o_istore, o_iinc, o_iadd, o_isub, o_imul, o_iand, o_ior, o_ixor, o_ishl, o_ishr, o_iushr, o_idiv, o_irem, o_ineg, o_dup, o_dup2, o_pop, o_if_eq, o_if_ne, o_if_lt, o_if_ge, o_if_gt, o_if_le, o_icmp_eq, o_icmp_ne, o_icmp_lt, o_icmp_ge, o_icmp_gt, o_icmp_le, o_nonnull, o_lsw2, o_iret, o_zret, o_vret, o_cV0, o_cV1, o_cV2, o_cV3, o_cV4, o_cV5, o_cV6, o_cS1, o_cS2, o_cS3, o_cS4, lg, lset, inB, pushv, c1, okr, at_, List.replicate, true_and, and_true, true_or, or_true, eq_self, forall_const, not_true_eq_false, not_false_eq_true, forall_eq, false_implies, true_implies,  List.length_nil, List.length_cons, Nat.zero_le, Nat.reduceAdd, Nat.reduceLeDiff]
    rw [tv_le hV (by omega) (by omega)]
    exact ⟨fun q => h0 (by omega), fun q => h1 (by omega)⟩
theorem tgQ_le {p : Nat → Bool} : ∀ n, tgQ V p n ≤ n
  | 0 => Nat.le_refl _
  | n + 1 => by
    have := tgQ_le (p := p) n
    unfold tgQ
    split <;> omega
theorem r_tightest {left room : Nat} {fam : Int32} {fm p : Nat → Bool} (hV : VOk V) (hR : RAt σ V) (hl : left < 2 ^ 31) (hrm : room < 100) (hfm : (fam < 0 ∧ ∀ j, fm j = true) ∨ (¬ fam < 0 ∧ ∀ j, j < V 9 → ((nI (V (10 + j)) = fam) ↔ fm j = true))) (hp : ∀ j, j < V 9 → p j = (left.testBit j && fm j && decide (V (17 + j) ≤ room)))
    (h : Q (some (.int (tgv V p (V 9)))) σ) : E G MX5_tightest (d + 3) 0 [some (.ref 57), some (.int (nI left)), some (.int fam), some (.int (nI room)), none, none, none] [] σ Q := by
  have h7 := hV.2.2.2.2.1
  apply kX5_tightest_0
  simp only [ia1, ia2, ia3, ia4, inn, inm, i10, i01, i0n, i1n, i0m, i1m, o_push, o_iload, o_aload, o_istore, o_iinc, o_iadd, o_isub, o_imul, o_iand, o_ior, o_ixor, o_ishl, o_ishr, o_iushr, o_idiv, o_irem, o_ineg, o_dup, o_dup2, o_pop, o_if_eq, o_if_ne, o_if_lt, o_if_ge, o_if_gt, o_if_le, o_icmp_eq, o_icmp_ne, o_icmp_lt, o_icmp_ge, o_icmp_gt, o_icmp_le, o_nonnull, o_lsw2, o_iret, o_zret, o_vret, o_cV0, o_cV1, o_cV2, o_cV3, o_cV4, o_cV5, o_cV6, o_cS1, o_cS2, o_cS3, o_cS4, lg, lset, inB, pushv, c1, okr, at_, List.replicate, true_and, and_true, true_or, or_true, eq_self, forall_const, not_true_eq_false, not_false_eq_true, forall_eq, false_implies, true_implies,  List.length_nil, List.length_cons, Nat.zero_le, Nat.reduceAdd, Nat.reduceLeDiff, n0]
  suffices H : ∀ k j (x : Option Value), k + j = V 9 → E G MX5_tightest (d + 3) 7 [some (.ref 57), some (.int (nI left)), some (.int fam), some (.int (nI room)), some (.int (tgv V p j)), some (.int (nI j)), x] [] σ Q from H (V 9) 0 _ (by omega)
  intro k
  induction k with
  | zero =>
    intro j x hj
    obtain rfl : j = V 9 := by omega
    apply kX5_tightest_7
    simp only [ia1, ia2, ia3, ia4, inn, inm, i10, i01, i0n, i1n, i0m, i1m, o_push, o_iload, o_aload, o_istore, o_iinc, o_iadd, o_isub, o_imul, o_iand, o_ior, o_ixor, o_ishl, o_ishr, o_iushr, o_idiv, o_irem, o_ineg, o_dup, o_dup2, o_pop, o_if_eq, o_if_ne, o_if_lt, o_if_ge, o_if_gt, o_if_le, o_icmp_eq, o_icmp_ne, o_icmp_lt, o_icmp_ge, o_icmp_gt, o_icmp_le, o_nonnull, o_lsw2, o_iret, o_zret, o_vret, o_cV0, o_cV1, o_cV2, o_cV3, o_cV4, o_cV5, o_cV6, o_cS1, o_cS2, o_cS3, o_cS4, lg, lset, inB, pushv, c1, okr, at_, List.replicate, true_and, and_true, true_or, or_true, eq_self, forall_const, not_true_eq_false, not_false_eq_true, forall_eq, false_implies, true_implies,  List.length_nil, List.length_cons, Nat.zero_le, Nat.reduceAdd, Nat.reduceLeDiff, sh57k]
    refine r_many hR ?_
    simp (disch := omega) only [ia1, ia2, ia3, ia4, inn, inm, i10, i01, i0n, i1n, i0m, i1m, o_push, o_iload, o_aload, o_istore, o_iinc, o_iadd, o_isub, o_imul, o_iand, o_ior, o_ixor, o_ishl, o_ishr, o_iushr, o_idiv, o_irem, o_ineg, o_dup, o_dup2, o_pop, o_if_eq, o_if_ne, o_if_lt, o_if_ge, o_if_gt, o_if_le, o_icmp_eq, o_icmp_ne, o_icmp_lt, o_icmp_ge, o_icmp_gt, o_icmp_le, o_nonnull, o_lsw2, o_iret, o_zret, o_vret, o_cV0, o_cV1, o_cV2, o_cV3, o_cV4, o_cV5, o_cV6, o_cS1, o_cS2, o_cS3, o_cS4, lg, lset, inB, pushv, c1, okr, at_, List.replicate, true_and, and_true, true_or, or_true, eq_self, forall_const, not_true_eq_false, not_false_eq_true, forall_eq, false_implies, true_implies,  List.length_nil, List.length_cons, Nat.zero_le, Nat.reduceAdd, Nat.reduceLeDiff, nLe, Nat.le_refl]
    exact h
  | succ k ih =>
    intro j x hj
    have hv := hV.2.2.2.2.2.1 j (by omega)
    have hpj := hp j (by omega)
    have hqle := tgQ_le (V := V) (p := p) j
    have no : p j = false → ∀ x, E G MX5_tightest (d + 3) 61 [some (.ref 57), some (.int (nI left)), some (.int fam), some (.int (nI room)), some (.int (tgv V p j)), some (.int (nI j)), x] [] σ Q := by
      intro hpf x
      have eq : tgQ V p (j + 1) = tgQ V p j := by rw [tgQ, if_neg (by rw [hpf]; simp)]
      have e : tgv V p (j + 1) = tgv V p j := by unfold tgv; rw [eq]
      have nx := fun y => ih (j + 1) y (by omega)
      rw [e] at nx
      apply kX5_tightest_61
      simp only [ia1, ia2, ia3, ia4, inn, inm, i10, i01, i0n, i1n, i0m, i1m, o_push, o_iload, o_aload, o_istore, o_iinc, o_iadd, o_isub, o_imul, o_iand, o_ior, o_ixor, o_ishl, o_ishr, o_iushr, o_idiv, o_irem, o_ineg, o_dup, o_dup2, o_pop, o_if_eq, o_if_ne, o_if_lt, o_if_ge, o_if_gt, o_if_le, o_icmp_eq, o_icmp_ne, o_icmp_lt, o_icmp_ge, o_icmp_gt, o_icmp_le, o_nonnull, o_lsw2, o_iret, o_zret, o_vret, o_cV0, o_cV1, o_cV2, o_cV3, o_cV4, o_cV5, o_cV6, o_cS1, o_cS2, o_cS3, o_cS4, lg, lset, inB, pushv, c1, okr, at_, List.replicate, true_and, and_true, true_or, or_true, eq_self, forall_const, not_true_eq_false, not_false_eq_true, forall_eq, false_implies, true_implies,  List.length_nil, List.length_cons, Nat.zero_le, Nat.reduceAdd, Nat.reduceLeDiff]
      apply kX5_tightest_62
      simp only [ia1, ia2, ia3, ia4, inn, inm, i10, i01, i0n, i1n, i0m, i1m, o_push, o_iload, o_aload, o_istore, o_iinc, o_iadd, o_isub, o_imul, o_iand, o_ior, o_ixor, o_ishl, o_ishr, o_iushr, o_idiv, o_irem, o_ineg, o_dup, o_dup2, o_pop, o_if_eq, o_if_ne, o_if_lt, o_if_ge, o_if_gt, o_if_le, o_icmp_eq, o_icmp_ne, o_icmp_lt, o_icmp_ge, o_icmp_gt, o_icmp_le, o_nonnull, o_lsw2, o_iret, o_zret, o_vret, o_cV0, o_cV1, o_cV2, o_cV3, o_cV4, o_cV5, o_cV6, o_cS1, o_cS2, o_cS3, o_cS4, lg, lset, inB, pushv, c1, okr, at_, List.replicate, true_and, and_true, true_or, or_true, eq_self, forall_const, not_true_eq_false, not_false_eq_true, forall_eq, false_implies, true_implies,  List.length_nil, List.length_cons, Nat.zero_le, Nat.reduceAdd, Nat.reduceLeDiff, n1, nI_add]
      exact nx _
    have yes : left.testBit j = true → fm j = true → ∀ x, E G MX5_tightest (d + 3) 43 [some (.ref 57), some (.int (nI left)), some (.int fam), some (.int (nI room)), some (.int (tgv V p j)), some (.int (nI j)), x] [] σ Q := by
      intro hb hf x
      apply kX5_tightest_43
      simp (disch := omega) only [ia1, ia2, ia3, ia4, inn, inm, i10, i01, i0n, i1n, i0m, i1m, o_push, o_iload, o_aload, o_istore, o_iinc, o_iadd, o_isub, o_imul, o_iand, o_ior, o_ixor, o_ishl, o_ishr, o_iushr, o_idiv, o_irem, o_ineg, o_dup, o_dup2, o_pop, o_if_eq, o_if_ne, o_if_lt, o_if_ge, o_if_gt, o_if_le, o_icmp_eq, o_icmp_ne, o_icmp_lt, o_icmp_ge, o_icmp_gt, o_icmp_le, o_nonnull, o_lsw2, o_iret, o_zret, o_vret, o_cV0, o_cV1, o_cV2, o_cV3, o_cV4, o_cV5, o_cV6, o_cS1, o_cS2, o_cS3, o_cS4, lg, lset, inB, pushv, c1, okr, at_, List.replicate, true_and, and_true, true_or, or_true, eq_self, forall_const, not_true_eq_false, not_false_eq_true, forall_eq, false_implies, true_implies,  List.length_nil, List.length_cons, Nat.zero_le, Nat.reduceAdd, Nat.reduceLeDiff, gM0, n17, nI_add, ldI sh58, hR _ (show 17 + j < 31 by omega), nLt]
      refine ⟨fun q => no (by rw [hpj, hb, hf]; simp; omega) _, fun q => ?_⟩
      have hpt : p j = true := by rw [hpj, hb, hf]; simp; omega
      apply kX5_tightest_62
      simp only [ia1, ia2, ia3, ia4, inn, inm, i10, i01, i0n, i1n, i0m, i1m, o_push, o_iload, o_aload, o_istore, o_iinc, o_iadd, o_isub, o_imul, o_iand, o_ior, o_ixor, o_ishl, o_ishr, o_iushr, o_idiv, o_irem, o_ineg, o_dup, o_dup2, o_pop, o_if_eq, o_if_ne, o_if_lt, o_if_ge, o_if_gt, o_if_le, o_icmp_eq, o_icmp_ne, o_icmp_lt, o_icmp_ge, o_icmp_gt, o_icmp_le, o_nonnull, o_lsw2, o_iret, o_zret, o_vret, o_cV0, o_cV1, o_cV2, o_cV3, o_cV4, o_cV5, o_cV6, o_cS1, o_cS2, o_cS3, o_cS4, lg, lset, inB, pushv, c1, okr, at_, List.replicate, true_and, and_true, true_or, or_true, eq_self, forall_const, not_true_eq_false, not_false_eq_true, forall_eq, false_implies, true_implies,  List.length_nil, List.length_cons, Nat.zero_le, Nat.reduceAdd, Nat.reduceLeDiff, sh57k]
      rw [tgv]
      refine r_isTighter hV hR (by omega) (by omega) (fun w => ?_) (fun w => ?_)
      · have eq : tgQ V p (j + 1) = j + 1 := by rw [tgQ, if_pos ⟨hpt, w⟩]
        have e : tgv V p (j + 1) = nI j := by unfold tgv; rw [eq, if_neg (by omega), Nat.add_sub_cancel]
        have nx := fun y => ih (j + 1) y (by omega)
        rw [e] at nx
        simp only [ia1, ia2, ia3, ia4, inn, inm, i10, i01, i0n, i1n, i0m, i1m, o_push, o_iload, o_aload, o_istore, o_iinc, o_iadd, o_isub, o_imul, o_iand, o_ior, o_ixor, o_ishl, o_ishr, o_iushr, o_idiv, o_irem, o_ineg, o_dup, o_dup2, o_pop, o_if_eq, o_if_ne, o_if_lt, o_if_ge, o_if_gt, o_if_le, o_icmp_eq, o_icmp_ne, o_icmp_lt, o_icmp_ge, o_icmp_gt, o_icmp_le, o_nonnull, o_lsw2, o_iret, o_zret, o_vret, o_cV0, o_cV1, o_cV2, o_cV3, o_cV4, o_cV5, o_cV6, o_cS1, o_cS2, o_cS3, o_cS4, lg, lset, inB, pushv, c1, okr, at_, List.replicate, true_and, and_true, true_or, or_true, eq_self, forall_const, not_true_eq_false, not_false_eq_true, forall_eq, false_implies, true_implies,  List.length_nil, List.length_cons, Nat.zero_le, Nat.reduceAdd, Nat.reduceLeDiff, n1, nI_add]
        exact nx _
      · have eq : tgQ V p (j + 1) = tgQ V p j := by rw [tgQ, if_neg (fun z => w z.2)]
        have e : tgv V p (j + 1) = tgv V p j := by unfold tgv; rw [eq]
        have nx := fun y => ih (j + 1) y (by omega)
        rw [e, tgv] at nx
        simp only [ia1, ia2, ia3, ia4, inn, inm, i10, i01, i0n, i1n, i0m, i1m, o_push, o_iload, o_aload, o_istore, o_iinc, o_iadd, o_isub, o_imul, o_iand, o_ior, o_ixor, o_ishl, o_ishr, o_iushr, o_idiv, o_irem, o_ineg, o_dup, o_dup2, o_pop, o_if_eq, o_if_ne, o_if_lt, o_if_ge, o_if_gt, o_if_le, o_icmp_eq, o_icmp_ne, o_icmp_lt, o_icmp_ge, o_icmp_gt, o_icmp_le, o_nonnull, o_lsw2, o_iret, o_zret, o_vret, o_cV0, o_cV1, o_cV2, o_cV3, o_cV4, o_cV5, o_cV6, o_cS1, o_cS2, o_cS3, o_cS4, lg, lset, inB, pushv, c1, okr, at_, List.replicate, true_and, and_true, true_or, or_true, eq_self, forall_const, not_true_eq_false, not_false_eq_true, forall_eq, false_implies, true_implies,  List.length_nil, List.length_cons, Nat.zero_le, Nat.reduceAdd, Nat.reduceLeDiff, n1, nI_add]
        exact nx _
    apply kX5_tightest_7
    simp only [ia1, ia2, ia3, ia4, inn, inm, i10, i01, i0n, i1n, i0m, i1m, o_push, o_iload, o_aload, o_istore, o_iinc, o_iadd, o_isub, o_imul, o_iand, o_ior, o_ixor, o_ishl, o_ishr, o_iushr, o_idiv, o_irem, o_ineg, o_dup, o_dup2, o_pop, o_if_eq, o_if_ne, o_if_lt, o_if_ge, o_if_gt, o_if_le, o_icmp_eq, o_icmp_ne, o_icmp_lt, o_icmp_ge, o_icmp_gt, o_icmp_le, o_nonnull, o_lsw2, o_iret, o_zret, o_vret, o_cV0, o_cV1, o_cV2, o_cV3, o_cV4, o_cV5, o_cV6, o_cS1, o_cS2, o_cS3, o_cS4, lg, lset, inB, pushv, c1, okr, at_, List.replicate, true_and, and_true, true_or, or_true, eq_self, forall_const, not_true_eq_false, not_false_eq_true, forall_eq, false_implies, true_implies,  List.length_nil, List.length_cons, Nat.zero_le, Nat.reduceAdd, Nat.reduceLeDiff, sh57k]
    refine r_many hR ?_
    simp (disch := omega) only [ia1, ia2, ia3, ia4, inn, inm, i10, i01, i0n, i1n, i0m, i1m, o_push, o_iload, o_aload, o_istore, o_iinc, o_iadd, o_isub, o_imul, o_iand, o_ior, o_ixor, o_ishl, o_ishr, o_iushr, o_idiv, o_irem, o_ineg, o_dup, o_dup2, o_pop, o_if_eq, o_if_ne, o_if_lt, o_if_ge, o_if_gt, o_if_le, o_icmp_eq, o_icmp_ne, o_icmp_lt, o_icmp_ge, o_icmp_gt, o_icmp_le, o_nonnull, o_lsw2, o_iret, o_zret, o_vret, o_cV0, o_cV1, o_cV2, o_cV3, o_cV4, o_cV5, o_cV6, o_cS1, o_cS2, o_cS3, o_cS4, lg, lset, inB, pushv, c1, okr, at_, List.replicate, true_and, and_true, true_or, or_true, eq_self, forall_const, not_true_eq_false, not_false_eq_true, forall_eq, false_implies, true_implies,  List.length_nil, List.length_cons, Nat.zero_le, Nat.reduceAdd, Nat.reduceLeDiff, nLe]
    refine ⟨fun q => absurd q (by omega), fun _ => r_has hl (by omega) (fun hbit => ?_) (fun hbit => ?_)⟩
    · simp (disch := omega) only [ia1, ia2, ia3, ia4, inn, inm, i10, i01, i0n, i1n, i0m, i1m, o_push, o_iload, o_aload, o_istore, o_iinc, o_iadd, o_isub, o_imul, o_iand, o_ior, o_ixor, o_ishl, o_ishr, o_iushr, o_idiv, o_irem, o_ineg, o_dup, o_dup2, o_pop, o_if_eq, o_if_ne, o_if_lt, o_if_ge, o_if_gt, o_if_le, o_icmp_eq, o_icmp_ne, o_icmp_lt, o_icmp_ge, o_icmp_gt, o_icmp_le, o_nonnull, o_lsw2, o_iret, o_zret, o_vret, o_cV0, o_cV1, o_cV2, o_cV3, o_cV4, o_cV5, o_cV6, o_cS1, o_cS2, o_cS3, o_cS4, lg, lset, inB, pushv, c1, okr, at_, List.replicate, true_and, and_true, true_or, or_true, eq_self, forall_const, not_true_eq_false, not_false_eq_true, forall_eq, false_implies, true_implies,  List.length_nil, List.length_cons, Nat.zero_le, Nat.reduceAdd, Nat.reduceLeDiff, gM0, n10, nI_add, ldI sh58, hR _ (show 10 + j < 31 by omega)]
      rcases hfm with ⟨f1, f2⟩ | ⟨f1, f2⟩
      · exact ⟨fun _ => yes hbit (f2 j) _, fun z => absurd f1 z⟩
      · refine ⟨fun z => absurd z f1, fun _ => ⟨fun q => no ?_ _, fun q => yes hbit ((f2 j (by omega)).mp q) _⟩⟩
        have : fm j = false := by
          cases hf : fm j
          · rfl
          · exact absurd ((f2 j (by omega)).mpr hf) q
        rw [hpj, this]; simp
    · simp only [ia1, ia2, ia3, ia4, inn, inm, i10, i01, i0n, i1n, i0m, i1m, o_push, o_iload, o_aload, o_istore, o_iinc, o_iadd, o_isub, o_imul, o_iand, o_ior, o_ixor, o_ishl, o_ishr, o_iushr, o_idiv, o_irem, o_ineg, o_dup, o_dup2, o_pop, o_if_eq, o_if_ne, o_if_lt, o_if_ge, o_if_gt, o_if_le, o_icmp_eq, o_icmp_ne, o_icmp_lt, o_icmp_ge, o_icmp_gt, o_icmp_le, o_nonnull, o_lsw2, o_iret, o_zret, o_vret, o_cV0, o_cV1, o_cV2, o_cV3, o_cV4, o_cV5, o_cV6, o_cS1, o_cS2, o_cS3, o_cS4, lg, lset, inB, pushv, c1, okr, at_, List.replicate, true_and, and_true, true_or, or_true, eq_self, forall_const, not_true_eq_false, not_false_eq_true, forall_eq, false_implies, true_implies,  List.length_nil, List.length_cons, Nat.zero_le, Nat.reduceAdd, Nat.reduceLeDiff]
      exact no (by rw [hpj, hbit]; simp) _
theorem pp_o (hV : VOk V) {L F o v c j : Nat} (h : RI V L F o v c) (hj : j < V 9) : pp V (sd L c) F (V 6 - v) j = true ↔ o.testBit j = true ∧ v + V (17 + j) ≤ V 6 := by
  have h7 := hV.2.2.2.2.1
  obtain ⟨h1, h2, h3, h4, h5, h6⟩ := h
  have hvl : v ≤ V 6 := by rw [← h3]; exact h1.2.2.2
  unfold pp
  rw [sd_bit (by omega)]
  constructor
  · intro z
    have z2 : ((L.testBit j = true ∧ c.testBit j = false) ∧ V (10 + j) = F) ∧ V (17 + j) ≤ V 6 - v := by simpa using z
    refine ⟨?_, by omega⟩
    cases ho : o.testBit j
    · have := h6 j hj z2.1.1.1 z2.1.1.2 z2.1.2 ho; omega
    · rfl
  · rintro ⟨z1, z2⟩
    obtain ⟨j1, j2, j3, j4⟩ := h4 j z1
    rw [j3, j4, j2]
    simp; omega
set_option maxHeartbeats 1000000 in
theorem r_layRule (hV : VOk V) (hR : RAt σ V) (h : ∀ τ, (∀ a, a ≠ 57 → a ≠ 62 → τ a = σ a) → (∀ i, i ≠ 6 → τ 57 i = σ 57 i) → MPl τ (ruleP V).1 (ruleP V).2 → Q none τ) : E G MX5_layRule (d + 4) 0 [some (.ref 57), none, none, none, none, none, none] [] σ Q := by
  have h7 := hV.2.2.2.2.1
  have hf := full_lt hV
  have hfp := pc_7 _ hf
  apply kX5_layRule_0
  simp only [ia1, ia2, ia3, ia4, inn, inm, i10, i01, i0n, i1n, i0m, i1m, o_push, o_iload, o_aload, o_istore, o_iinc, o_iadd, o_isub, o_imul, o_iand, o_ior, o_ixor, o_ishl, o_ishr, o_iushr, o_idiv, o_irem, o_ineg, o_dup, o_dup2, o_pop, o_if_eq, o_if_ne, o_if_lt, o_if_ge, o_if_gt, o_if_le, o_icmp_eq, o_icmp_ne, o_icmp_lt, o_icmp_ge, o_icmp_gt, o_icmp_le, o_nonnull, o_lsw2, o_iret, o_zret, o_vret, o_cV0, o_cV1, o_cV2, o_cV3, o_cV4, o_cV5, o_cV6, o_cS1, o_cS2, o_cS3, o_cS4, lg, lset, inB, pushv, c1, okr, at_, List.replicate, true_and, and_true, true_or, or_true, eq_self, forall_const, not_true_eq_false, not_false_eq_true, forall_eq, false_implies, true_implies,  List.length_nil, List.length_cons, Nat.zero_le, Nat.reduceAdd, Nat.reduceLeDiff, pM6, sh57k]
  refine r_full hV (hR.fr (wr_o (by omega))) ?_
  simp only [ia1, ia2, ia3, ia4, inn, inm, i10, i01, i0n, i1n, i0m, i1m, o_push, o_iload, o_aload, o_istore, o_iinc, o_iadd, o_isub, o_imul, o_iand, o_ior, o_ixor, o_ishl, o_ishr, o_iushr, o_idiv, o_irem, o_ineg, o_dup, o_dup2, o_pop, o_if_eq, o_if_ne, o_if_lt, o_if_ge, o_if_gt, o_if_le, o_icmp_eq, o_icmp_ne, o_icmp_lt, o_icmp_ge, o_icmp_gt, o_icmp_le, o_nonnull, o_lsw2, o_iret, o_zret, o_vret, o_cV0, o_cV1, o_cV2, o_cV3, o_cV4, o_cV5, o_cV6, o_cS1, o_cS2, o_cS3, o_cS4, lg, lset, inB, pushv, c1, okr, at_, List.replicate, true_and, and_true, true_or, or_true, eq_self, forall_const, not_true_eq_false, not_false_eq_true, forall_eq, false_implies, true_implies,  List.length_nil, List.length_cons, Nat.zero_le, Nat.reduceAdd, Nat.reduceLeDiff]
  suffices H : ∀ r left k (B : Nat → Nat) (τ : Mem) (x2 x3 x4 x5 x6 : Option Value), left < 2 ^ V 9 → pc left ≤ r → k + pc left ≤ 7 → (∀ a, a ≠ 57 → a ≠ 62 → τ a = σ a) → (∀ i, i ≠ 6 → τ 57 i = σ 57 i) → MPl τ k B → lrR V r left k B = ruleP V →
      E G MX5_layRule (d + 4) 10 [some (.ref 57), some (.int (nI left)), x2, x3, x4, x5, x6] [] τ Q from
    H 7 (fullS V) 0 (fun _ => 0) _ _ _ _ _ _ full_lt2 hfp (by omega) (fun a h1 h2 => wr_o h1) (fun i hi => wr_n (by omega)) ⟨by rw [wr_s]; exact n0, by omega, fun i hi => by omega⟩ rfl
  intro r
  induction r with
  | zero =>
    intro left k B τ x2 x3 x4 x5 x6 hl hp hk hfr hfr6 hP hR0
    have := pc_0 left (Nat.lt_of_lt_of_le hl (p7 h7)) (by omega)
    subst this
    apply kX5_layRule_10
    simp (disch := omega) only [ia1, ia2, ia3, ia4, inn, inm, i10, i01, i0n, i1n, i0m, i1m, o_push, o_iload, o_aload, o_istore, o_iinc, o_iadd, o_isub, o_imul, o_iand, o_ior, o_ixor, o_ishl, o_ishr, o_iushr, o_idiv, o_irem, o_ineg, o_dup, o_dup2, o_pop, o_if_eq, o_if_ne, o_if_lt, o_if_ge, o_if_gt, o_if_le, o_icmp_eq, o_icmp_ne, o_icmp_lt, o_icmp_ge, o_icmp_gt, o_icmp_le, o_nonnull, o_lsw2, o_iret, o_zret, o_vret, o_cV0, o_cV1, o_cV2, o_cV3, o_cV4, o_cV5, o_cV6, o_cS1, o_cS2, o_cS3, o_cS4, lg, lset, inB, pushv, c1, okr, at_, List.replicate, true_and, and_true, true_or, or_true, eq_self, forall_const, not_true_eq_false, not_false_eq_true, forall_eq, false_implies, true_implies,  List.length_nil, List.length_cons, Nat.zero_le, Nat.reduceAdd, Nat.reduceLeDiff, n0, nLe, Nat.le_refl]
    rw [← hR0] at h
    exact h τ hfr hfr6 hP
  | succ r ih =>
    intro left k B τ x2 x3 x4 x5 x6 hl hp hk hfr hfr6 hP hR0
    have hl7 : left < 128 := Nat.lt_of_lt_of_le hl (p7 h7)
    have hRt : RAt τ V := hR.fr (hfr 58 (by omega) (by omega))
    apply kX5_layRule_10
    simp (disch := omega) only [ia1, ia2, ia3, ia4, inn, inm, i10, i01, i0n, i1n, i0m, i1m, o_push, o_iload, o_aload, o_istore, o_iinc, o_iadd, o_isub, o_imul, o_iand, o_ior, o_ixor, o_ishl, o_ishr, o_iushr, o_idiv, o_irem, o_ineg, o_dup, o_dup2, o_pop, o_if_eq, o_if_ne, o_if_lt, o_if_ge, o_if_gt, o_if_le, o_icmp_eq, o_icmp_ne, o_icmp_lt, o_icmp_ge, o_icmp_gt, o_icmp_le, o_nonnull, o_lsw2, o_iret, o_zret, o_vret, o_cV0, o_cV1, o_cV2, o_cV3, o_cV4, o_cV5, o_cV6, o_cS1, o_cS2, o_cS3, o_cS4, lg, lset, inB, pushv, c1, okr, at_, List.replicate, true_and, and_true, true_or, or_true, eq_self, forall_const, not_true_eq_false, not_false_eq_true, forall_eq, false_implies, true_implies,  List.length_nil, List.length_cons, Nat.zero_le, Nat.reduceAdd, Nat.reduceLeDiff, n0, nLe, gM0, n6, ldI sh58, hRt 6 (by omega), sh57k]
    refine ⟨fun q => ?_, fun q => ?_⟩
    · have : left = 0 := by omega
      subst this
      rw [lrR, if_pos rfl] at hR0
      rw [← hR0] at h
      exact h τ hfr hfr6 hP
    · have h0 : left ≠ 0 := by omega
      obtain ⟨hRI, t1, t2, t3⟩ := RI_first hV hl h0
      obtain ⟨w1, w2, w3⟩ := rbt_inv hV hl h0
      rw [lrR, if_neg h0] at hR0
      have hrb : rbR V 7 (sd (left &&& memR V (V (10 + tgt V left)) (V 9)) (2 ^ tgt V left)) (V (17 + tgt V left)) (2 ^ tgt V left) = rbt V left := rfl
      have ho7 : sd (left &&& memR V (V (10 + tgt V left)) (V 9)) (2 ^ tgt V left) < 128 := sd_lt (Nat.lt_of_le_of_lt Nat.and_le_left hl7)
      have hv := hV.2.2.2.2.2.1 (tgt V left) (by omega)
      have hr6 := hV.2.1
      have hfm : (tgv V (fun j => left.testBit j) (V 9)) = nI (tgt V left) := by
        unfold tgv
        rw [← tgR_Q, t3, if_neg (by omega), Nat.add_sub_cancel]
      refine r_tightest (fm := fun _ => true) (p := fun j => left.testBit j) hV hRt (by omega) (by omega) (Or.inl ⟨by decide, fun _ => rfl⟩) (fun j hj => ?_) ?_
      · have := (hV.2.2.2.2.2.1 j (by omega)).2.1
        have e : decide (V (17 + j) ≤ V 6) = true := by simp; omega
        rw [e]; simp
      rw [hfm]
      simp (disch := omega) only [ia1, ia2, ia3, ia4, inn, inm, i10, i01, i0n, i1n, i0m, i1m, o_push, o_iload, o_aload, o_istore, o_iinc, o_iadd, o_isub, o_imul, o_iand, o_ior, o_ixor, o_ishl, o_ishr, o_iushr, o_idiv, o_irem, o_ineg, o_dup, o_dup2, o_pop, o_if_eq, o_if_ne, o_if_lt, o_if_ge, o_if_gt, o_if_le, o_icmp_eq, o_icmp_ne, o_icmp_lt, o_icmp_ge, o_icmp_gt, o_icmp_le, o_nonnull, o_lsw2, o_iret, o_zret, o_vret, o_cV0, o_cV1, o_cV2, o_cV3, o_cV4, o_cV5, o_cV6, o_cS1, o_cS2, o_cS3, o_cS4, lg, lset, inB, pushv, c1, okr, at_, List.replicate, true_and, and_true, true_or, or_true, eq_self, forall_const, not_true_eq_false, not_false_eq_true, forall_eq, false_implies, true_implies,  List.length_nil, List.length_cons, Nat.zero_le, Nat.reduceAdd, Nat.reduceLeDiff, gM0, n10, n6, nI_add, ldI sh58, hRt 6 (by omega), hRt _ (show 10 + tgt V left < 31 by omega)]
      -- one turn of the inner loop
      generalize hF : V (10 + tgt V left) = F at hRI hrb ho7 hv
      generalize tgt V left = t0 at *
      have step : ∀ l c rm t (y : Option Value), l < 128 → c < 128 → t < V 9 → V (17 + t) ≤ rm → rm ≤ 20 → E G MX5_layRule (d + 4) 54 [some (.ref 57), some (.int (nI (sd l (2 ^ t)))), y, some (.int (nI F)), some (.int (nI (c ||| 2 ^ t))), some (.int (nI (rm - V (17 + t)))), some (.int (tgv V (pp V (sd l (2 ^ t)) F (rm - V (17 + t))) (V 9)))] [] τ Q →
          E G MX5_layRule (d + 4) 54 [some (.ref 57), some (.int (nI l)), y, some (.int (nI F)), some (.int (nI c)), some (.int (nI rm)), some (.int (nI t))] [] τ Q := by
        intro l c rm t y hl7 hc ht hvt hrm hgo
        have h2t : 2 ^ t < 2 ^ 7 := pow_lt (by omega)
        have hsl := sd_lt (c := 2 ^ t) hl7
        apply kX5_layRule_54
        simp (disch := omega) only [ia1, ia2, ia3, ia4, inn, inm, i10, i01, i0n, i1n, i0m, i1m, o_push, o_iload, o_aload, o_istore, o_iinc, o_iadd, o_isub, o_imul, o_iand, o_ior, o_ixor, o_ishl, o_ishr, o_iushr, o_idiv, o_irem, o_ineg, o_dup, o_dup2, o_pop, o_if_eq, o_if_ne, o_if_lt, o_if_ge, o_if_gt, o_if_le, o_icmp_eq, o_icmp_ne, o_icmp_lt, o_icmp_ge, o_icmp_gt, o_icmp_le, o_nonnull, o_lsw2, o_iret, o_zret, o_vret, o_cV0, o_cV1, o_cV2, o_cV3, o_cV4, o_cV5, o_cV6, o_cS1, o_cS2, o_cS3, o_cS4, lg, lset, inB, pushv, c1, okr, at_, List.replicate, true_and, and_true, true_or, or_true, eq_self, forall_const, not_true_eq_false, not_false_eq_true, forall_eq, false_implies, true_implies,  List.length_nil, List.length_cons, Nat.zero_le, Nat.reduceAdd, Nat.reduceLeDiff, n1, shl1, fa_or, gM0, n17, nI_add, ldI sh58, hRt _ (show 17 + t < 31 by omega), nSub, sh57k]
        rw [sdN l hl7 _ (by omega)]
        refine ⟨fun z => absurd z (nI_pos (by omega)), fun _ => ?_⟩
        refine r_tightest (fm := fun j => decide (V (10 + j) = F)) (p := pp V (sd l (2 ^ t)) F (rm - V (17 + t))) hV hRt (by omega) (by omega) (Or.inr ⟨nI_pos (by omega), fun j hj => ?_⟩) (fun j hj => rfl) ?_
        · rw [nEq (by have := (hV.2.2.2.2.2.1 j (by omega)).1; omega) (by omega)]; simp
        simp only [ia1, ia2, ia3, ia4, inn, inm, i10, i01, i0n, i1n, i0m, i1m, o_push, o_iload, o_aload, o_istore, o_iinc, o_iadd, o_isub, o_imul, o_iand, o_ior, o_ixor, o_ishl, o_ishr, o_iushr, o_idiv, o_irem, o_ineg, o_dup, o_dup2, o_pop, o_if_eq, o_if_ne, o_if_lt, o_if_ge, o_if_gt, o_if_le, o_icmp_eq, o_icmp_ne, o_icmp_lt, o_icmp_ge, o_icmp_gt, o_icmp_le, o_nonnull, o_lsw2, o_iret, o_zret, o_vret, o_cV0, o_cV1, o_cV2, o_cV3, o_cV4, o_cV5, o_cV6, o_cS1, o_cS2, o_cS3, o_cS4, lg, lset, inB, pushv, c1, okr, at_, List.replicate, true_and, and_true, true_or, or_true, eq_self, forall_const, not_true_eq_false, not_false_eq_true, forall_eq, false_implies, true_implies,  List.length_nil, List.length_cons, Nat.zero_le, Nat.reduceAdd, Nat.reduceLeDiff]
        exact hgo
      have nx : ∀ (y z : Option Value), E G MX5_layRule (d + 4) 54 [some (.ref 57), some (.int (nI (sd left (rbt V left)))), y, some (.int (nI F)), some (.int (nI (rbt V left))), z, some (.int (-6))] [] τ Q := by
        intro y z
        apply kX5_layRule_54
        simp (disch := omega) only [ia1, ia2, ia3, ia4, inn, inm, i10, i01, i0n, i1n, i0m, i1m, o_push, o_iload, o_aload, o_istore, o_iinc, o_iadd, o_isub, o_imul, o_iand, o_ior, o_ixor, o_ishl, o_ishr, o_iushr, o_idiv, o_irem, o_ineg, o_dup, o_dup2, o_pop, o_if_eq, o_if_ne, o_if_lt, o_if_ge, o_if_gt, o_if_le, o_icmp_eq, o_icmp_ne, o_icmp_lt, o_icmp_ge, o_icmp_gt, o_icmp_le, o_nonnull, o_lsw2, o_iret, o_zret, o_vret, o_cV0, o_cV1, o_cV2, o_cV3, o_cV4, o_cV5, o_cV6, o_cS1, o_cS2, o_cS3, o_cS4, lg, lset, inB, pushv, c1, okr, at_, List.replicate, true_and, and_true, true_or, or_true, eq_self, forall_const, not_true_eq_false, not_false_eq_true, forall_eq, false_implies, true_implies,  List.length_nil, List.length_cons, Nat.zero_le, Nat.reduceAdd, Nat.reduceLeDiff, gM5, gM6, hP.1, stI sh62, wr_o, pM6, n1, nI_add]
        refine ⟨fun _ => ?_, fun z => absurd n6neg z⟩
        refine ih _ (k + 1) (upN B k (rbt V left)) _ _ _ _ _ _ (sd_sub hl) (by omega) (by omega) (fun a z1 z2 => by rw [wr_o z1, wr_o z2]; exact hfr a z1 z2) (fun i hi => by rw [wr_n (by omega), wr_o (by omega)]; exact hfr6 i hi) ⟨wr_s, by omega, fun i hi => ?_⟩ hR0
        rw [wr_o (by omega)]
        unfold upN
        by_cases hik : i = k
        · subst hik; rw [wr_s, if_pos rfl]; exact ⟨rfl, rbt_lt hV left⟩
        · rw [wr_n (by omega), if_neg hik]; exact hP.2.2 i (by omega)
      suffices HB : ∀ r2 o v c (y : Option Value), RI V left F o v c → o < 128 → pc o ≤ r2 → rbR V r2 o v c = rbt V left → E G MX5_layRule (d + 4) 54 [some (.ref 57), some (.int (nI (sd left c))), y, some (.int (nI F)), some (.int (nI c)), some (.int (nI (V 6 - v))), some (.int (tgv V (pp V (sd left c) F (V 6 - v)) (V 9)))] [] τ Q by
        have := step left 0 (V 6) t0 (some (.int (nI t0))) hl7 (by omega) t2 (by omega) (by omega) (by rw [Nat.zero_or]; exact HB 7 _ _ _ _ hRI ho7 (pc_7 _ ho7) hrb)
        exact this
      intro r2
      have done : ∀ v c (y : Option Value), RI V left F 0 v c → c = rbt V left → E G MX5_layRule (d + 4) 54 [some (.ref 57), some (.int (nI (sd left c))), y, some (.int (nI F)), some (.int (nI c)), some (.int (nI (V 6 - v))), some (.int (tgv V (pp V (sd left c) F (V 6 - v)) (V 9)))] [] τ Q := by
        intro v c y hri hc
        have e : tgv V (pp V (sd left c) F (V 6 - v)) (V 9) = -6 := by
          unfold tgv
          rw [if_pos]
          refine (tgQ_0 _).mpr (fun j hj => ?_)
          cases hb : pp V (sd left c) F (V 6 - v) j
          · rfl
          · have := ((pp_o hV hri hj).mp hb).1
            simp at this
        rw [e]
        subst hc
        exact nx _ _
      induction r2 with
      | zero =>
        intro o v c y hri ho hp hrr
        have := pc_0 o ho (by omega)
        subst this
        exact done v c y hri hrr
      | succ r2 ih2 =>
        intro o v c y hri ho hp hrr
        rw [rbR] at hrr
        by_cases hoz : o = 0
        · subst hoz
          rw [if_pos rfl] at hrr
          exact done v c y hri hrr
        · rw [if_neg hoz] at hrr
          obtain ⟨p1, b1, b2, b3⟩ := RI_pc hV hri ho hoz
          by_cases hfit : v + V (17 + tgt V o) ≤ V 6
          · rw [if_pos hfit] at hrr
            have hri2 := RI_take hV hri b1 hfit
            have e : tgv V (pp V (sd left c) F (V 6 - v)) (V 9) = nI (tgt V o) := by
              unfold tgv
              rw [tgQ_eq (a := tgt V o) b2 ((pp_o hV hri b2).mpr ⟨b1, hfit⟩) (fun j hj hb => b3 j hj ((pp_o hV hri hj).mp hb).1), if_neg (by omega), Nat.add_sub_cancel]
            rw [e]
            have hvl : v ≤ V 6 := by rw [← hri.2.2.1]; exact hri.1.2.2.2
            refine step (sd left c) c (V 6 - v) (tgt V o) y (sd_lt hl7) (okB_lt hV hri.1) b2 (by omega) (by omega) ?_
            rw [sd_or hl7, show V 6 - v - V (17 + tgt V o) = V 6 - (v + V (17 + tgt V o)) by omega]
            exact ih2 _ _ _ _ hri2 (sd_lt ho) (by omega) hrr
          · rw [if_neg hfit] at hrr
            exact ih2 _ v c y (RI_skip hV hri hfit) (sd_lt ho) (by omega) hrr
end RULEM
