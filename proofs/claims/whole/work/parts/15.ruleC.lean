/-! THE RULE, as the class lays it -/
def sd (l c : Nat) : Nat := l &&& (127 ^^^ c)
theorem sdN : ∀ l, l < 128 → ∀ c, c < 128 → nI l &&& (nI c ^^^ -nI 1) = nI (sd l c) := by decide +kernel
theorem sd_lt {l c : Nat} (h : l < 128) : sd l c < 128 := Nat.lt_of_le_of_lt Nat.and_le_left h
/-- the job with the least TIGHT of a set, of such the least: it and 1, added; 0: there is none -/
def tgR (V : Nat → Nat) (S : Nat) : Nat → Nat
  | 0 => 0
  | n + 1 => if S.testBit n = true ∧ (tgR V S n = 0 ∨ tN V n < tN V (tgR V S n - 1)) then n + 1 else tgR V S n
theorem tgR_le (V : Nat → Nat) (S : Nat) : ∀ n, tgR V S n ≤ n
  | 0 => Nat.le_refl _
  | n + 1 => by
    have := tgR_le V S n
    unfold tgR
    split <;> omega
def tgt (V : Nat → Nat) (S : Nat) : Nat := tgR V S (V 9) - 1
def rbR (V : Nat → Nat) : Nat → Nat → Nat → Nat → Nat
  | 0, _, _, c => c
  | r + 1, o, v, c => if o = 0 then c else if v + V (17 + tgt V o) ≤ V 6 then rbR V r (sd o (2 ^ tgt V o)) (v + V (17 + tgt V o)) (c ||| 2 ^ tgt V o) else rbR V r (sd o (2 ^ tgt V o)) v c
def rbt (V : Nat → Nat) (left : Nat) : Nat := rbR V 7 (sd (left &&& memR V (V (10 + tgt V left)) (V 9)) (2 ^ tgt V left)) (V (17 + tgt V left)) (2 ^ tgt V left)
def lrR (V : Nat → Nat) : Nat → Nat → Nat → (Nat → Nat) → Nat × (Nat → Nat)
  | 0, _, k, B => (k, B)
  | r + 1, left, k, B => if left = 0 then (k, B) else lrR V r (sd left (rbt V left)) (k + 1) (upN B k (rbt V left))
def ruleP (V : Nat → Nat) : Nat × (Nat → Nat) := lrR V 7 (2 ^ V 9 - 1) 0 (fun _ => 0)
theorem tgt_lt {V : Nat → Nat} (h : VOk V) (S : Nat) : tgt V S < 7 := by
  have := tgR_le V S (V 9)
  have := h.2.2.2.2.1
  unfold tgt; omega
theorem rbR_lt {V : Nat → Nat} (h : VOk V) : ∀ r o v c, c < 128 → rbR V r o v c < 128
  | 0, _, _, _, hc => hc
  | r + 1, o, v, c, hc => by
    have h2 : 2 ^ tgt V o < 2 ^ 7 := Nat.pow_lt_pow_right (by omega) (tgt_lt h o)
    unfold rbR
    split
    · exact hc
    · split
      · exact rbR_lt h r _ _ _ (Nat.or_lt_two_pow (n := 7) hc h2)
      · exact rbR_lt h r _ _ _ hc
theorem rbR_ne {V : Nat → Nat} : ∀ r o v c, c ≠ 0 → rbR V r o v c ≠ 0
  | 0, _, _, _, hc => hc
  | r + 1, o, v, c, hc => by
    unfold rbR
    split
    · exact hc
    · split
      · refine rbR_ne r _ _ _ (fun z => hc ?_)
        have z2 : c ≤ c ||| 2 ^ tgt V o := Nat.left_le_or
        rw [z] at z2
        exact Nat.le_zero.mp z2
      · exact rbR_ne r _ _ _ hc
theorem rbt_lt {V : Nat → Nat} (h : VOk V) (l : Nat) : rbt V l < 128 := rbR_lt h _ _ _ _ (show 2 ^ tgt V l < 2 ^ 7 from Nat.pow_lt_pow_right (by omega) (tgt_lt h l))
theorem rbt_ne {V : Nat → Nat} (l : Nat) : rbt V l ≠ 0 := rbR_ne _ _ _ _ (Nat.ne_of_gt (Nat.two_pow_pos _))
section RULEC
variable {G : Gp} {d : Nat} {Q : Option Value → Mem → Prop} {σ : Mem} {V B : Nat → Nat}
theorem sp_tightest {S : Nat} (hS : S < 128) (hV : VOk V) (hs : ShAt σ 1 V) (h : Q (some (.int (nI (tgt V S)))) σ) : E G MX4_tightest (d + 2) 0 [some (.ref 0), some (.int (nI S)), none, none, none] [] σ Q := by
  have hn := hV.2.2.2.2.1
  apply kX4_tightest_0
  simp only [ia1, ia2, ia3, ia4, inn, inm, i10, i01, i0n, i1n, i0m, i1m, o_push, o_iload, o_aload, o_istore, o_iinc, o_iadd, o_isub, o_imul, o_iand, o_ior, o_ixor, o_ishl, o_ishr, o_iushr, o_idiv, o_irem, o_ineg, o_dup, o_dup2, o_pop, o_if_eq, o_if_ne, o_if_lt, o_if_ge, o_if_gt, o_if_le, o_icmp_eq, o_icmp_ne, o_icmp_lt, o_icmp_ge, o_icmp_gt, o_icmp_le, o_nonnull, o_lsw2, o_iret, o_zret, o_vret, o_cV0, o_cV1, o_cV2, o_cV3, o_cV4, o_cV5, o_cV6, o_cS1, o_cS2, o_cS3, o_cS4, lg, lset, inB, pushv, c1, okr, at_, List.replicate, true_and, and_true, true_or, or_true, eq_self, forall_const, not_true_eq_false, not_false_eq_true, forall_eq, false_implies, true_implies,  List.length_nil, List.length_cons, Nat.zero_le, Nat.reduceAdd, Nat.reduceLeDiff, n0]
  suffices H : ∀ k j (w : Int32), k + j = V 9 → (tgR V S j = 0 → w = 1000000) → (tgR V S j ≠ 0 → w = tv V (tgR V S j - 1)) → E G MX4_tightest (d + 2) 8 [some (.ref 0), some (.int (nI S)), some (.int (nI (tgR V S j - 1))), some (.int w), some (.int (nI j))] [] σ Q from
    H (V 9) 0 _ (by omega) (fun _ => rfl) (fun z => absurd rfl z)
  intro k
  induction k with
  | zero =>
    intro j w hjn _ _
    obtain rfl : j = V 9 := by omega
    apply kX4_tightest_8
    simp (disch := omega) only [ia1, ia2, ia3, ia4, inn, inm, i10, i01, i0n, i1n, i0m, i1m, o_push, o_iload, o_aload, o_istore, o_iinc, o_iadd, o_isub, o_imul, o_iand, o_ior, o_ixor, o_ishl, o_ishr, o_iushr, o_idiv, o_irem, o_ineg, o_dup, o_dup2, o_pop, o_if_eq, o_if_ne, o_if_lt, o_if_ge, o_if_gt, o_if_le, o_icmp_eq, o_icmp_ne, o_icmp_lt, o_icmp_ge, o_icmp_gt, o_icmp_le, o_nonnull, o_lsw2, o_iret, o_zret, o_vret, o_cV0, o_cV1, o_cV2, o_cV3, o_cV4, o_cV5, o_cV6, o_cS1, o_cS2, o_cS3, o_cS4, lg, lset, inB, pushv, c1, okr, at_, List.replicate, true_and, and_true, true_or, or_true, eq_self, forall_const, not_true_eq_false, not_false_eq_true, forall_eq, false_implies, true_implies,  List.length_nil, List.length_cons, Nat.zero_le, Nat.reduceAdd, Nat.reduceLeDiff, gH0, gS5 isSh1, hs.n, nLe]
    exact ⟨fun _ => h, fun q => absurd (Nat.le_refl _) q⟩
  | succ k ih =>
    intro j w hjn hw0 hw1
    have hle := tgR_le V S j
    apply kX4_tightest_8
    simp (disch := omega) only [ia1, ia2, ia3, ia4, inn, inm, i10, i01, i0n, i1n, i0m, i1m, o_push, o_iload, o_aload, o_istore, o_iinc, o_iadd, o_isub, o_imul, o_iand, o_ior, o_ixor, o_ishl, o_ishr, o_iushr, o_idiv, o_irem, o_ineg, o_dup, o_dup2, o_pop, o_if_eq, o_if_ne, o_if_lt, o_if_ge, o_if_gt, o_if_le, o_icmp_eq, o_icmp_ne, o_icmp_lt, o_icmp_ge, o_icmp_gt, o_icmp_le, o_nonnull, o_lsw2, o_iret, o_zret, o_vret, o_cV0, o_cV1, o_cV2, o_cV3, o_cV4, o_cV5, o_cV6, o_cS1, o_cS2, o_cS3, o_cS4, lg, lset, inB, pushv, c1, okr, at_, List.replicate, true_and, and_true, true_or, or_true, eq_self, forall_const, not_true_eq_false, not_false_eq_true, forall_eq, false_implies, true_implies,  List.length_nil, List.length_cons, Nat.zero_le, Nat.reduceAdd, Nat.reduceLeDiff, gH0, gS5 isSh1, hs.n, nLe, isSh1.k, n1, nI_add]
    refine ⟨fun q => absurd q (by omega), fun _ => sp_contains (by omega) (by omega) (fun hbit => ?_) (fun hbit => ?_)⟩
    · simp only [ia1, ia2, ia3, ia4, inn, inm, i10, i01, i0n, i1n, i0m, i1m, o_push, o_iload, o_aload, o_istore, o_iinc, o_iadd, o_isub, o_imul, o_iand, o_ior, o_ixor, o_ishl, o_ishr, o_iushr, o_idiv, o_irem, o_ineg, o_dup, o_dup2, o_pop, o_if_eq, o_if_ne, o_if_lt, o_if_ge, o_if_gt, o_if_le, o_icmp_eq, o_icmp_ne, o_icmp_lt, o_icmp_ge, o_icmp_gt, o_icmp_le, o_nonnull, o_lsw2, o_iret, o_zret, o_vret, o_cV0, o_cV1, o_cV2, o_cV3, o_cV4, o_cV5, o_cV6, o_cS1, o_cS2, o_cS3, o_cS4, lg, lset, inB, pushv, c1, okr, at_, List.replicate, true_and, and_true, true_or, or_true, eq_self, forall_const, not_true_eq_false, not_false_eq_true, forall_eq, false_implies, true_implies,  List.length_nil, List.length_cons, Nat.zero_le, Nat.reduceAdd, Nat.reduceLeDiff, isSh1.k, gH0]
      refine sp_tight (by omega) isSh1 hV hs ?_
      simp only [ia1, ia2, ia3, ia4, inn, inm, i10, i01, i0n, i1n, i0m, i1m, o_push, o_iload, o_aload, o_istore, o_iinc, o_iadd, o_isub, o_imul, o_iand, o_ior, o_ixor, o_ishl, o_ishr, o_iushr, o_idiv, o_irem, o_ineg, o_dup, o_dup2, o_pop, o_if_eq, o_if_ne, o_if_lt, o_if_ge, o_if_gt, o_if_le, o_icmp_eq, o_icmp_ne, o_icmp_lt, o_icmp_ge, o_icmp_gt, o_icmp_le, o_nonnull, o_lsw2, o_iret, o_zret, o_vret, o_cV0, o_cV1, o_cV2, o_cV3, o_cV4, o_cV5, o_cV6, o_cS1, o_cS2, o_cS3, o_cS4, lg, lset, inB, pushv, c1, okr, at_, List.replicate, true_and, and_true, true_or, or_true, eq_self, forall_const, not_true_eq_false, not_false_eq_true, forall_eq, false_implies, true_implies,  List.length_nil, List.length_cons, Nat.zero_le, Nat.reduceAdd, Nat.reduceLeDiff, isSh1.k, gH0, n1, nI_add]
      have keep : tgR V S j ≠ 0 → ¬ tN V j < tN V (tgR V S j - 1) → E G MX4_tightest (d + 2) 8 [some (.ref 0), some (.int (nI S)), some (.int (nI (tgR V S j - 1))), some (.int w), some (.int (nI (j + 1)))] [] σ Q := by
        intro z1 z2
        have e : tgR V S (j + 1) = tgR V S j := by rw [tgR, if_neg (by rintro ⟨-, z | z⟩; exact z1 z; exact z2 z)]
        have := ih (j + 1) w (by omega) (by rw [e]; exact hw0) (by rw [e]; exact hw1)
        rw [e] at this
        exact this
      have take : (tgR V S j = 0 ∨ tN V j < tN V (tgR V S j - 1)) → E G MX4_tightest (d + 2) 8 [some (.ref 0), some (.int (nI S)), some (.int (nI j)), some (.int (tv V j)), some (.int (nI (j + 1)))] [] σ Q := by
        intro z
        have e : tgR V S (j + 1) = j + 1 := by rw [tgR, if_pos ⟨hbit, z⟩]
        have := ih (j + 1) (tv V j) (by omega) (by rw [e]; intro z; omega) (by rw [e]; intro _; rfl)
        rw [e] at this
        exact this
      by_cases h0 : tgR V S j = 0
      · rw [hw0 h0]
        refine ⟨fun q => absurd q (tv_max hV (by omega)), fun _ => sp_tight (by omega) isSh1 hV hs ?_⟩
        simp only [ia1, ia2, ia3, ia4, inn, inm, i10, i01, i0n, i1n, i0m, i1m, o_push, o_iload, o_aload, o_istore, o_iinc, o_iadd, o_isub, o_imul, o_iand, o_ior, o_ixor, o_ishl, o_ishr, o_iushr, o_idiv, o_irem, o_ineg, o_dup, o_dup2, o_pop, o_if_eq, o_if_ne, o_if_lt, o_if_ge, o_if_gt, o_if_le, o_icmp_eq, o_icmp_ne, o_icmp_lt, o_icmp_ge, o_icmp_gt, o_icmp_le, o_nonnull, o_lsw2, o_iret, o_zret, o_vret, o_cV0, o_cV1, o_cV2, o_cV3, o_cV4, o_cV5, o_cV6, o_cS1, o_cS2, o_cS3, o_cS4, lg, lset, inB, pushv, c1, okr, at_, List.replicate, true_and, and_true, true_or, or_true, eq_self, forall_const, not_true_eq_false, not_false_eq_true, forall_eq, false_implies, true_implies,  List.length_nil, List.length_cons, Nat.zero_le, Nat.reduceAdd, Nat.reduceLeDiff, n1, nI_add]
        exact take (Or.inl h0)
      · rw [hw1 h0, tv_le hV (by omega) (by omega)] at *
        rw [← hw1 h0]
        refine ⟨fun q => keep h0 (by omega), fun q => sp_tight (by omega) isSh1 hV hs ?_⟩
        simp only [ia1, ia2, ia3, ia4, inn, inm, i10, i01, i0n, i1n, i0m, i1m, o_push, o_iload, o_aload, o_istore, o_iinc, o_iadd, o_isub, o_imul, o_iand, o_ior, o_ixor, o_ishl, o_ishr, o_iushr, o_idiv, o_irem, o_ineg, o_dup, o_dup2, o_pop, o_if_eq, o_if_ne, o_if_lt, o_if_ge, o_if_gt, o_if_le, o_icmp_eq, o_icmp_ne, o_icmp_lt, o_icmp_ge, o_icmp_gt, o_icmp_le, o_nonnull, o_lsw2, o_iret, o_zret, o_vret, o_cV0, o_cV1, o_cV2, o_cV3, o_cV4, o_cV5, o_cV6, o_cS1, o_cS2, o_cS3, o_cS4, lg, lset, inB, pushv, c1, okr, at_, List.replicate, true_and, and_true, true_or, or_true, eq_self, forall_const, not_true_eq_false, not_false_eq_true, forall_eq, false_implies, true_implies,  List.length_nil, List.length_cons, Nat.zero_le, Nat.reduceAdd, Nat.reduceLeDiff, n1, nI_add]
        exact take (Or.inr (by omega))
    · simp only [ia1, ia2, ia3, ia4, inn, inm, i10, i01, i0n, i1n, i0m, i1m, o_push, o_iload, o_aload, o_istore, o_iinc, o_iadd, o_isub, o_imul, o_iand, o_ior, o_ixor, o_ishl, o_ishr, o_iushr, o_idiv, o_irem, o_ineg, o_dup, o_dup2, o_pop, o_if_eq, o_if_ne, o_if_lt, o_if_ge, o_if_gt, o_if_le, o_icmp_eq, o_icmp_ne, o_icmp_lt, o_icmp_ge, o_icmp_gt, o_icmp_le, o_nonnull, o_lsw2, o_iret, o_zret, o_vret, o_cV0, o_cV1, o_cV2, o_cV3, o_cV4, o_cV5, o_cV6, o_cS1, o_cS2, o_cS3, o_cS4, lg, lset, inB, pushv, c1, okr, at_, List.replicate, true_and, and_true, true_or, or_true, eq_self, forall_const, not_true_eq_false, not_false_eq_true, forall_eq, false_implies, true_implies,  List.length_nil, List.length_cons, Nat.zero_le, Nat.reduceAdd, Nat.reduceLeDiff, n1, nI_add]
      have e : tgR V S (j + 1) = tgR V S j := by rw [tgR, if_neg (by rw [hbit]; simp)]
      have := ih (j + 1) w (by omega) (by rw [e]; exact hw0) (by rw [e]; exact hw1)
      rw [e] at this
      exact this
theorem sp_ruleBatch {left : Nat} (hl : left < 128) (hV : VOk V) (hs : ShAt σ 1 V) (h : Q (some (.int (nI (rbt V left)))) σ) : E G MX4_ruleBatch (d + 3) 0 [some (.ref 0), some (.int (nI left)), none, none, none, none, none, none] [] σ Q := by
  have hn := hV.2.2.2.2.1
  have ht := tgt_lt hV left
  have h2 : 2 ^ tgt V left < 2 ^ 7 := Nat.pow_lt_pow_right (by omega) ht
  have hm := memR_lt V (V (10 + tgt V left)) (V 9)
  have hm2 := p7 hn
  have h3 := hV.2.2.2.2.2.1 _ ht
  apply kX4_ruleBatch_0
  simp only [ia1, ia2, ia3, ia4, inn, inm, i10, i01, i0n, i1n, i0m, i1m, o_push, o_iload, o_aload, o_istore, o_iinc, o_iadd, o_isub, o_imul, o_iand, o_ior, o_ixor, o_ishl, o_ishr, o_iushr, o_idiv, o_irem, o_ineg, o_dup, o_dup2, o_pop, o_if_eq, o_if_ne, o_if_lt, o_if_ge, o_if_gt, o_if_le, o_icmp_eq, o_icmp_ne, o_icmp_lt, o_icmp_ge, o_icmp_gt, o_icmp_le, o_nonnull, o_lsw2, o_iret, o_zret, o_vret, o_cV0, o_cV1, o_cV2, o_cV3, o_cV4, o_cV5, o_cV6, o_cS1, o_cS2, o_cS3, o_cS4, lg, lset, inB, pushv, c1, okr, at_, List.replicate, true_and, and_true, true_or, or_true, eq_self, forall_const, not_true_eq_false, not_false_eq_true, forall_eq, false_implies, true_implies,  List.length_nil, List.length_cons, Nat.zero_le, Nat.reduceAdd, Nat.reduceLeDiff, sh0k]
  refine sp_tightest hl hV hs ?_
  simp (disch := omega) only [ia1, ia2, ia3, ia4, inn, inm, i10, i01, i0n, i1n, i0m, i1m, o_push, o_iload, o_aload, o_istore, o_iinc, o_iadd, o_isub, o_imul, o_iand, o_ior, o_ixor, o_ishl, o_ishr, o_iushr, o_idiv, o_irem, o_ineg, o_dup, o_dup2, o_pop, o_if_eq, o_if_ne, o_if_lt, o_if_ge, o_if_gt, o_if_le, o_icmp_eq, o_icmp_ne, o_icmp_lt, o_icmp_ge, o_icmp_gt, o_icmp_le, o_nonnull, o_lsw2, o_iret, o_zret, o_vret, o_cV0, o_cV1, o_cV2, o_cV3, o_cV4, o_cV5, o_cV6, o_cS1, o_cS2, o_cS3, o_cS4, lg, lset, inB, pushv, c1, okr, at_, List.replicate, true_and, and_true, true_or, or_true, eq_self, forall_const, not_true_eq_false, not_false_eq_true, forall_eq, false_implies, true_implies,  List.length_nil, List.length_cons, Nat.zero_le, Nat.reduceAdd, Nat.reduceLeDiff, n1, shl1, gH0, gS7 isSh1, gS6 isSh1, ld7 isSh1.2.2.2.2.1, ld7 isSh1.2.2.2.1, hs.v, hs.f, isSh1.k]
  refine sp_membersOf h3.1 isSh1 hV hs ?_
  have ha : left &&& memR V (V (10 + tgt V left)) (V 9) < 128 := Nat.lt_of_le_of_lt Nat.and_le_left hl
  simp only [ia1, ia2, ia3, ia4, inn, inm, i10, i01, i0n, i1n, i0m, i1m, o_push, o_iload, o_aload, o_istore, o_iinc, o_iadd, o_isub, o_imul, o_iand, o_ior, o_ixor, o_ishl, o_ishr, o_iushr, o_idiv, o_irem, o_ineg, o_dup, o_dup2, o_pop, o_if_eq, o_if_ne, o_if_lt, o_if_ge, o_if_gt, o_if_le, o_icmp_eq, o_icmp_ne, o_icmp_lt, o_icmp_ge, o_icmp_gt, o_icmp_le, o_nonnull, o_lsw2, o_iret, o_zret, o_vret, o_cV0, o_cV1, o_cV2, o_cV3, o_cV4, o_cV5, o_cV6, o_cS1, o_cS2, o_cS3, o_cS4, lg, lset, inB, pushv, c1, okr, at_, List.replicate, true_and, and_true, true_or, or_true, eq_self, forall_const, not_true_eq_false, not_false_eq_true, forall_eq, false_implies, true_implies,  List.length_nil, List.length_cons, Nat.zero_le, Nat.reduceAdd, Nat.reduceLeDiff, fa_and]
  rw [sdN _ ha _ (by omega), n0]
  suffices H : ∀ r i o v c (x : Option Value), r + i = 7 → o < 128 → c < 128 → v ≤ 20 → rbR V r o v c = rbt V left → E G MX4_ruleBatch (d + 3) 48 [some (.ref 0), some (.int (nI left)), some (.int (nI (tgt V left))), some (.int (nI c)), some (.int (nI v)), some (.int (nI o)), some (.int (nI i)), x] [] σ Q from
    H 7 0 _ _ _ _ (by omega) (sd_lt ha) (by omega) (by omega) rfl
  intro r
  induction r with
  | zero =>
    intro i o v c x hri ho hc hv hR
    obtain rfl : i = 7 := by omega
    apply kX4_ruleBatch_48
    simp (disch := omega) only [ia1, ia2, ia3, ia4, inn, inm, i10, i01, i0n, i1n, i0m, i1m, o_push, o_iload, o_aload, o_istore, o_iinc, o_iadd, o_isub, o_imul, o_iand, o_ior, o_ixor, o_ishl, o_ishr, o_iushr, o_idiv, o_irem, o_ineg, o_dup, o_dup2, o_pop, o_if_eq, o_if_ne, o_if_lt, o_if_ge, o_if_gt, o_if_le, o_icmp_eq, o_icmp_ne, o_icmp_lt, o_icmp_ge, o_icmp_gt, o_icmp_le, o_nonnull, o_lsw2, o_iret, o_zret, o_vret, o_cV0, o_cV1, o_cV2, o_cV3, o_cV4, o_cV5, o_cV6, o_cS1, o_cS2, o_cS3, o_cS4, lg, lset, inB, pushv, c1, okr, at_, List.replicate, true_and, and_true, true_or, or_true, eq_self, forall_const, not_true_eq_false, not_false_eq_true, forall_eq, false_implies, true_implies,  List.length_nil, List.length_cons, Nat.zero_le, Nat.reduceAdd, Nat.reduceLeDiff, n7, nLe, Nat.le_refl]
    rw [← hR] at h
    exact h
  | succ r ih =>
    intro i o v c x hri ho hc hv hR
    have ht' := tgt_lt hV o
    have h2' : 2 ^ tgt V o < 2 ^ 7 := Nat.pow_lt_pow_right (by omega) ht'
    have h3' := hV.2.2.2.2.2.1 _ ht'
    have hr := hV.2.1
    apply kX4_ruleBatch_48
    simp (disch := omega) only [ia1, ia2, ia3, ia4, inn, inm, i10, i01, i0n, i1n, i0m, i1m, o_push, o_iload, o_aload, o_istore, o_iinc, o_iadd, o_isub, o_imul, o_iand, o_ior, o_ixor, o_ishl, o_ishr, o_iushr, o_idiv, o_irem, o_ineg, o_dup, o_dup2, o_pop, o_if_eq, o_if_ne, o_if_lt, o_if_ge, o_if_gt, o_if_le, o_icmp_eq, o_icmp_ne, o_icmp_lt, o_icmp_ge, o_icmp_gt, o_icmp_le, o_nonnull, o_lsw2, o_iret, o_zret, o_vret, o_cV0, o_cV1, o_cV2, o_cV3, o_cV4, o_cV5, o_cV6, o_cS1, o_cS2, o_cS3, o_cS4, lg, lset, inB, pushv, c1, okr, at_, List.replicate, true_and, and_true, true_or, or_true, eq_self, forall_const, not_true_eq_false, not_false_eq_true, forall_eq, false_implies, true_implies,  List.length_nil, List.length_cons, Nat.zero_le, Nat.reduceAdd, Nat.reduceLeDiff, n7, nLe, n0, nEq, sh0k]
    refine ⟨fun q => absurd q (by omega), fun _ => ⟨fun q => ?_, fun q => sp_tightest ho hV hs ?_⟩⟩
    · rw [← hR, rbR, if_pos q] at h
      exact h
    · simp (disch := omega) only [ia1, ia2, ia3, ia4, inn, inm, i10, i01, i0n, i1n, i0m, i1m, o_push, o_iload, o_aload, o_istore, o_iinc, o_iadd, o_isub, o_imul, o_iand, o_ior, o_ixor, o_ishl, o_ishr, o_iushr, o_idiv, o_irem, o_ineg, o_dup, o_dup2, o_pop, o_if_eq, o_if_ne, o_if_lt, o_if_ge, o_if_gt, o_if_le, o_icmp_eq, o_icmp_ne, o_icmp_lt, o_icmp_ge, o_icmp_gt, o_icmp_le, o_nonnull, o_lsw2, o_iret, o_zret, o_vret, o_cV0, o_cV1, o_cV2, o_cV3, o_cV4, o_cV5, o_cV6, o_cS1, o_cS2, o_cS3, o_cS4, lg, lset, inB, pushv, c1, okr, at_, List.replicate, true_and, and_true, true_or, or_true, eq_self, forall_const, not_true_eq_false, not_false_eq_true, forall_eq, false_implies, true_implies,  List.length_nil, List.length_cons, Nat.zero_le, Nat.reduceAdd, Nat.reduceLeDiff, n1, shl1, gH0, gS7 isSh1, ld7 isSh1.2.2.2.2.1, hs.v, gS2 isSh1, hs.room, nI_add, nLt, fa_or]
      rw [sdN _ ho _ (by omega)]
      rw [rbR, if_neg q] at hR
      refine ⟨fun q2 => ?_, fun q2 => ?_⟩
      · rw [if_neg (by omega)] at hR
        exact ih (i + 1) _ _ _ _ (by omega) (sd_lt ho) hc hv hR
      · rw [if_pos (by omega)] at hR
        exact ih (i + 1) _ _ _ _ (by omega) (sd_lt ho) (Nat.or_lt_two_pow (n := 7) hc h2') (by omega) hR
theorem sp_layRule (hV : VOk V) (hs : ShAt σ 1 V) (h : ∀ τ, (∀ a, a ≠ 34 → a ≠ 35 → a ≠ 36 → τ a = σ a) → PlAt τ 34 V (ruleP V).1 (ruleP V).2 → Q none τ) : E G MX4_layRule (d + 4) 0 [some (.ref 0), none, none, none] [] σ Q := by
  have hn := p7 hV.2.2.2.2.1
  have h2 : 1 ≤ 2 ^ V 9 := Nat.one_le_two_pow
  apply kX4_layRule_0
  simp only [ia1, ia2, ia3, ia4, inn, inm, i10, i01, i0n, i1n, i0m, i1m, o_push, o_iload, o_aload, o_istore, o_iinc, o_iadd, o_isub, o_imul, o_iand, o_ior, o_ixor, o_ishl, o_ishr, o_iushr, o_idiv, o_irem, o_ineg, o_dup, o_dup2, o_pop, o_if_eq, o_if_ne, o_if_lt, o_if_ge, o_if_gt, o_if_le, o_icmp_eq, o_icmp_ne, o_icmp_lt, o_icmp_ge, o_icmp_gt, o_icmp_le, o_nonnull, o_lsw2, o_iret, o_zret, o_vret, o_cV0, o_cV1, o_cV2, o_cV3, o_cV4, o_cV5, o_cV6, o_cS1, o_cS2, o_cS3, o_cS4, lg, lset, inB, pushv, c1, okr, at_, List.replicate, true_and, and_true, true_or, or_true, eq_self, forall_const, not_true_eq_false, not_false_eq_true, forall_eq, false_implies, true_implies,  List.length_nil, List.length_cons, Nat.zero_le, Nat.reduceAdd, Nat.reduceLeDiff, gH7, gH0, isPl34.k]
  refine sp_clear isPl34 ?_
  have hs1 : ShAt (wr σ 34 0 0) 1 V := hs.fr (fun a _ _ => wr_o (by omega))
  simp only [ia1, ia2, ia3, ia4, inn, inm, i10, i01, i0n, i1n, i0m, i1m, o_push, o_iload, o_aload, o_istore, o_iinc, o_iadd, o_isub, o_imul, o_iand, o_ior, o_ixor, o_ishl, o_ishr, o_iushr, o_idiv, o_irem, o_ineg, o_dup, o_dup2, o_pop, o_if_eq, o_if_ne, o_if_lt, o_if_ge, o_if_gt, o_if_le, o_icmp_eq, o_icmp_ne, o_icmp_lt, o_icmp_ge, o_icmp_gt, o_icmp_le, o_nonnull, o_lsw2, o_iret, o_zret, o_vret, o_cV0, o_cV1, o_cV2, o_cV3, o_cV4, o_cV5, o_cV6, o_cS1, o_cS2, o_cS3, o_cS4, lg, lset, inB, pushv, c1, okr, at_, List.replicate, true_and, and_true, true_or, or_true, eq_self, forall_const, not_true_eq_false, not_false_eq_true, forall_eq, false_implies, true_implies,  List.length_nil, List.length_cons, Nat.zero_le, Nat.reduceAdd, Nat.reduceLeDiff, gH0, isSh1.k]
  refine sp_everyJob isSh1 hV hs1 ?_
  simp only [ia1, ia2, ia3, ia4, inn, inm, i10, i01, i0n, i1n, i0m, i1m, o_push, o_iload, o_aload, o_istore, o_iinc, o_iadd, o_isub, o_imul, o_iand, o_ior, o_ixor, o_ishl, o_ishr, o_iushr, o_idiv, o_irem, o_ineg, o_dup, o_dup2, o_pop, o_if_eq, o_if_ne, o_if_lt, o_if_ge, o_if_gt, o_if_le, o_icmp_eq, o_icmp_ne, o_icmp_lt, o_icmp_ge, o_icmp_gt, o_icmp_le, o_nonnull, o_lsw2, o_iret, o_zret, o_vret, o_cV0, o_cV1, o_cV2, o_cV3, o_cV4, o_cV5, o_cV6, o_cS1, o_cS2, o_cS3, o_cS4, lg, lset, inB, pushv, c1, okr, at_, List.replicate, true_and, and_true, true_or, or_true, eq_self, forall_const, not_true_eq_false, not_false_eq_true, forall_eq, false_implies, true_implies,  List.length_nil, List.length_cons, Nat.zero_le, Nat.reduceAdd, Nat.reduceLeDiff, n0]
  suffices H : ∀ r left k (B : Nat → Nat) (τ : Mem) (x : Option Value), r + k = 7 → left < 128 → (∀ a, a ≠ 34 → a ≠ 35 → a ≠ 36 → τ a = σ a) → PlAt τ 34 V k B → lrR V r left k B = ruleP V →
      E G MX4_layRule (d + 4) 17 [some (.ref 0), some (.int (nI left)), some (.int (nI k)), x] [] τ Q from
    H 7 _ 0 (fun _ => 0) _ _ (by omega) (by omega) (fun a h1 h2 h3 => by rw [wr_o h1]) clear_at rfl
  intro r
  induction r with
  | zero =>
    intro left k B τ x hrk hl hfr hP hR
    obtain rfl : k = 7 := by omega
    apply kX4_layRule_17
    simp (disch := omega) only [ia1, ia2, ia3, ia4, inn, inm, i10, i01, i0n, i1n, i0m, i1m, o_push, o_iload, o_aload, o_istore, o_iinc, o_iadd, o_isub, o_imul, o_iand, o_ior, o_ixor, o_ishl, o_ishr, o_iushr, o_idiv, o_irem, o_ineg, o_dup, o_dup2, o_pop, o_if_eq, o_if_ne, o_if_lt, o_if_ge, o_if_gt, o_if_le, o_icmp_eq, o_icmp_ne, o_icmp_lt, o_icmp_ge, o_icmp_gt, o_icmp_le, o_nonnull, o_lsw2, o_iret, o_zret, o_vret, o_cV0, o_cV1, o_cV2, o_cV3, o_cV4, o_cV5, o_cV6, o_cS1, o_cS2, o_cS3, o_cS4, lg, lset, inB, pushv, c1, okr, at_, List.replicate, true_and, and_true, true_or, or_true, eq_self, forall_const, not_true_eq_false, not_false_eq_true, forall_eq, false_implies, true_implies,  List.length_nil, List.length_cons, Nat.zero_le, Nat.reduceAdd, Nat.reduceLeDiff, n7, nLe, Nat.le_refl]
    rw [← hR] at h
    exact h τ hfr hP
  | succ r ih =>
    intro left k B τ x hrk hl hfr hP hR
    have hs' : ShAt τ 1 V := hs.fr (fun a _ _ => hfr a (by omega) (by omega) (by omega))
    have hb := rbt_lt hV left
    apply kX4_layRule_17
    simp (disch := omega) only [ia1, ia2, ia3, ia4, inn, inm, i10, i01, i0n, i1n, i0m, i1m, o_push, o_iload, o_aload, o_istore, o_iinc, o_iadd, o_isub, o_imul, o_iand, o_ior, o_ixor, o_ishl, o_ishr, o_iushr, o_idiv, o_irem, o_ineg, o_dup, o_dup2, o_pop, o_if_eq, o_if_ne, o_if_lt, o_if_ge, o_if_gt, o_if_le, o_icmp_eq, o_icmp_ne, o_icmp_lt, o_icmp_ge, o_icmp_gt, o_icmp_le, o_nonnull, o_lsw2, o_iret, o_zret, o_vret, o_cV0, o_cV1, o_cV2, o_cV3, o_cV4, o_cV5, o_cV6, o_cS1, o_cS2, o_cS3, o_cS4, lg, lset, inB, pushv, c1, okr, at_, List.replicate, true_and, and_true, true_or, or_true, eq_self, forall_const, not_true_eq_false, not_false_eq_true, forall_eq, false_implies, true_implies,  List.length_nil, List.length_cons, Nat.zero_le, Nat.reduceAdd, Nat.reduceLeDiff, n7, nLe, n0, nEq, sh0k]
    refine ⟨fun q => absurd q (by omega), fun _ => ⟨fun q => ?_, fun q => sp_ruleBatch hl hV hs' ?_⟩⟩
    · rw [← hR, lrR, if_pos q] at h
      exact h τ hfr hP
    · simp only [ia1, ia2, ia3, ia4, inn, inm, i10, i01, i0n, i1n, i0m, i1m, o_push, o_iload, o_aload, o_istore, o_iinc, o_iadd, o_isub, o_imul, o_iand, o_ior, o_ixor, o_ishl, o_ishr, o_iushr, o_idiv, o_irem, o_ineg, o_dup, o_dup2, o_pop, o_if_eq, o_if_ne, o_if_lt, o_if_ge, o_if_gt, o_if_le, o_icmp_eq, o_icmp_ne, o_icmp_lt, o_icmp_ge, o_icmp_gt, o_icmp_le, o_nonnull, o_lsw2, o_iret, o_zret, o_vret, o_cV0, o_cV1, o_cV2, o_cV3, o_cV4, o_cV5, o_cV6, o_cS1, o_cS2, o_cS3, o_cS4, lg, lset, inB, pushv, c1, okr, at_, List.replicate, true_and, and_true, true_or, or_true, eq_self, forall_const, not_true_eq_false, not_false_eq_true, forall_eq, false_implies, true_implies,  List.length_nil, List.length_cons, Nat.zero_le, Nat.reduceAdd, Nat.reduceLeDiff, gH7, gH0, isPl34.k]
      refine sp_add isSh1 isPl34 (by omega) hV hs' hP (by omega) (rbt_ne left) hb (fun τ2 f2 hP2 => ?_)
      simp only [ia1, ia2, ia3, ia4, inn, inm, i10, i01, i0n, i1n, i0m, i1m, o_push, o_iload, o_aload, o_istore, o_iinc, o_iadd, o_isub, o_imul, o_iand, o_ior, o_ixor, o_ishl, o_ishr, o_iushr, o_idiv, o_irem, o_ineg, o_dup, o_dup2, o_pop, o_if_eq, o_if_ne, o_if_lt, o_if_ge, o_if_gt, o_if_le, o_icmp_eq, o_icmp_ne, o_icmp_lt, o_icmp_ge, o_icmp_gt, o_icmp_le, o_nonnull, o_lsw2, o_iret, o_zret, o_vret, o_cV0, o_cV1, o_cV2, o_cV3, o_cV4, o_cV5, o_cV6, o_cS1, o_cS2, o_cS3, o_cS4, lg, lset, inB, pushv, c1, okr, at_, List.replicate, true_and, and_true, true_or, or_true, eq_self, forall_const, not_true_eq_false, not_false_eq_true, forall_eq, false_implies, true_implies,  List.length_nil, List.length_cons, Nat.zero_le, Nat.reduceAdd, Nat.reduceLeDiff, n1, nI_add]
      rw [sdN _ hl _ hb]
      rw [lrR, if_neg q] at hR
      exact ih _ (k + 1) _ τ2 _ (by omega) (sd_lt hl) (fun a h1 h2 h3 => by rw [f2 a h1 h2 h3]; exact hfr a h1 h2 h3) hP2 hR
def fz (σ : Mem) : Mem := wr (wr (wr (wr σ 51 0 0) 51 1 0) 51 2 0) 51 3 0
theorem sh51 : sh 51 = shZ 4 := rfl
theorem nar0 : vp_nar .boolean (0 : Int32) = 0 := by decide +kernel
theorem nar1 : vp_nar .boolean (1 : Int32) = 1 := by decide +kernel
theorem sp_forgetBest (h : Q none (fz σ)) : E G MX4_forgetBest d 0 [some (.ref 0), none] [] σ Q := by
  apply kX4_forgetBest_0
  simp only [ia1, ia2, ia3, ia4, inn, inm, i10, i01, i0n, i1n, i0m, i1m, o_push, o_iload, o_aload, o_istore, o_iinc, o_iadd, o_isub, o_imul, o_iand, o_ior, o_ixor, o_ishl, o_ishr, o_iushr, o_idiv, o_irem, o_ineg, o_dup, o_dup2, o_pop, o_if_eq, o_if_ne, o_if_lt, o_if_ge, o_if_gt, o_if_le, o_icmp_eq, o_icmp_ne, o_icmp_lt, o_icmp_ge, o_icmp_gt, o_icmp_le, o_nonnull, o_lsw2, o_iret, o_zret, o_vret, o_cV0, o_cV1, o_cV2, o_cV3, o_cV4, o_cV5, o_cV6, o_cS1, o_cS2, o_cS3, o_cS4, lg, lset, inB, pushv, c1, okr, at_, List.replicate, true_and, and_true, true_or, or_true, eq_self, forall_const, not_true_eq_false, not_false_eq_true, forall_eq, false_implies, true_implies,  List.length_nil, List.length_cons, Nat.zero_le, Nat.reduceAdd, Nat.reduceLeDiff]
  have st : ∀ i, i < 4 → ∀ (τ : Mem), E G MX4_forgetBest d 2 [some (.ref 0), some (.int (nI (i + 1)))] [] (wr τ 51 i 0) Q → E G MX4_forgetBest d 2 [some (.ref 0), some (.int (nI i))] [] τ Q := by
    intro i hi τ hx
    apply kX4_forgetBest_2
    simp (disch := omega) only [ia1, ia2, ia3, ia4, inn, inm, i10, i01, i0n, i1n, i0m, i1m, o_push, o_iload, o_aload, o_istore, o_iinc, o_iadd, o_isub, o_imul, o_iand, o_ior, o_ixor, o_ishl, o_ishr, o_iushr, o_idiv, o_irem, o_ineg, o_dup, o_dup2, o_pop, o_if_eq, o_if_ne, o_if_lt, o_if_ge, o_if_gt, o_if_le, o_icmp_eq, o_icmp_ne, o_icmp_lt, o_icmp_ge, o_icmp_gt, o_icmp_le, o_nonnull, o_lsw2, o_iret, o_zret, o_vret, o_cV0, o_cV1, o_cV2, o_cV3, o_cV4, o_cV5, o_cV6, o_cS1, o_cS2, o_cS3, o_cS4, lg, lset, inB, pushv, c1, okr, at_, List.replicate, true_and, and_true, true_or, or_true, eq_self, forall_const, not_true_eq_false, not_false_eq_true, forall_eq, false_implies, true_implies,  List.length_nil, List.length_cons, Nat.zero_le, Nat.reduceAdd, Nat.reduceLeDiff, gH10, n4, nLe, stZ sh51, nar0, n1, nI_add]
    exact ⟨fun q => absurd q (by omega), fun _ => hx⟩
  rw [n0]
  refine st 0 (by omega) _ (st 1 (by omega) _ (st 2 (by omega) _ (st 3 (by omega) _ ?_)))
  apply kX4_forgetBest_2
  simp (disch := omega) only [ia1, ia2, ia3, ia4, inn, inm, i10, i01, i0n, i1n, i0m, i1m, o_push, o_iload, o_aload, o_istore, o_iinc, o_iadd, o_isub, o_imul, o_iand, o_ior, o_ixor, o_ishl, o_ishr, o_iushr, o_idiv, o_irem, o_ineg, o_dup, o_dup2, o_pop, o_if_eq, o_if_ne, o_if_lt, o_if_ge, o_if_gt, o_if_le, o_icmp_eq, o_icmp_ne, o_icmp_lt, o_icmp_ge, o_icmp_gt, o_icmp_le, o_nonnull, o_lsw2, o_iret, o_zret, o_vret, o_cV0, o_cV1, o_cV2, o_cV3, o_cV4, o_cV5, o_cV6, o_cS1, o_cS2, o_cS3, o_cS4, lg, lset, inB, pushv, c1, okr, at_, List.replicate, true_and, and_true, true_or, or_true, eq_self, forall_const, not_true_eq_false, not_false_eq_true, forall_eq, false_implies, true_implies,  List.length_nil, List.length_cons, Nat.zero_le, Nat.reduceAdd, Nat.reduceLeDiff, n4, nLe, Nat.le_refl]
  exact h
end RULEC
