section LEAFC
variable {G : Gp} {d : Nat} {Q : Option Value → Mem → Prop} {σ : Mem} {b : Nat} {V : Nat → Nat}
theorem i10 : ((1 : Int32) = 0) = False := by decide
theorem i01 : ((0 : Int32) = 1) = False := by decide
theorem ia1 : (nI 1 = (0 : Int32)) = False := by decide +kernel
theorem ia2 : (nI 0 = (0 : Int32)) = True := by decide +kernel
theorem ia3 : (nI 0 = (1 : Int32)) = False := by decide +kernel
theorem ia4 : (nI 1 = (1 : Int32)) = True := by decide +kernel
theorem inn : (nI 1 = nI 0) = False := by decide +kernel
theorem inm : (nI 0 = nI 1) = False := by decide +kernel
theorem i0n : ((0 : Int32) = nI 0) = True := by decide +kernel
theorem i1n : ((1 : Int32) = nI 0) = False := by decide +kernel
theorem i0m : ((0 : Int32) = nI 1) = False := by decide +kernel
theorem i1m : ((1 : Int32) = nI 1) = True := by decide +kernel
theorem has_bit1 {S j : Nat} (hS : S < 2 ^ 31) (hj : j < 31) : nI S >>> (nI j &&& 31) &&& 1 = if S.testBit j then 1 else 0 := by
  rw [n1, has_bit hS hj]
  split
  · rfl
  · exact n0.symm
theorem sp_contains {S j : Nat} (hS : S < 2 ^ 31) (hj : j < 31) (ht : S.testBit j = true → Q (some (.int 1)) σ) (hf : S.testBit j = false → Q (some (.int 0)) σ) : E G MX4_contains d 0 [some (.int (nI S)), some (.int (nI j))] [] σ Q := by
  apply kX4_contains_0
  simp only [ia1, ia2, ia3, ia4, inn, inm, i10, i01, i0n, i1n, i0m, i1m, o_push, o_iload, o_aload, o_istore, o_iinc, o_iadd, o_isub, o_imul, o_iand, o_ior, o_ixor, o_ishl, o_ishr, o_iushr, o_idiv, o_irem, o_ineg, o_dup, o_dup2, o_pop, o_if_eq, o_if_ne, o_if_lt, o_if_ge, o_if_gt, o_if_le, o_icmp_eq, o_icmp_ne, o_icmp_lt, o_icmp_ge, o_icmp_gt, o_icmp_le, o_nonnull, o_lsw2, o_iret, o_zret, o_vret, o_cV0, o_cV1, o_cV2, o_cV3, o_cV4, o_cV5, o_cV6, o_cS1, o_cS2, o_cS3, o_cS4, lg, lset, inB, pushv, c1, okr, at_, List.replicate, true_and, and_true, true_or, or_true, eq_self, forall_const, not_true_eq_false, not_false_eq_true, forall_eq, false_implies, true_implies,  List.length_nil, List.length_cons, Nat.zero_le, Nat.reduceAdd, Nat.reduceLeDiff, has_bit1 hS hj]
  cases hb : S.testBit j
  · simp [hf hb]
  · simp [ht hb]
theorem sp_isWithin {x l m : Int32} (ht : l ≤ x ∧ x ≤ m → Q (some (.int 1)) σ) (hf : ¬ (l ≤ x ∧ x ≤ m) → Q (some (.int 0)) σ) : E G MX4_isWithin d 0 [some (.int x), some (.int l), some (.int m)] [] σ Q := by
  apply kX4_isWithin_0
  simp only [ia1, ia2, ia3, ia4, inn, inm, i10, i01, i0n, i1n, i0m, i1m, o_push, o_iload, o_aload, o_istore, o_iinc, o_iadd, o_isub, o_imul, o_iand, o_ior, o_ixor, o_ishl, o_ishr, o_iushr, o_idiv, o_irem, o_ineg, o_dup, o_dup2, o_pop, o_if_eq, o_if_ne, o_if_lt, o_if_ge, o_if_gt, o_if_le, o_icmp_eq, o_icmp_ne, o_icmp_lt, o_icmp_ge, o_icmp_gt, o_icmp_le, o_nonnull, o_lsw2, o_iret, o_zret, o_vret, o_cV0, o_cV1, o_cV2, o_cV3, o_cV4, o_cV5, o_cV6, o_cS1, o_cS2, o_cS3, o_cS4, lg, lset, inB, pushv, c1, okr, at_, List.replicate, true_and, and_true, true_or, or_true, eq_self, forall_const, not_true_eq_false, not_false_eq_true, forall_eq, false_implies, true_implies,  List.length_nil, List.length_cons, Nat.zero_le, Nat.reduceAdd, Nat.reduceLeDiff]
  exact ⟨fun h1 => hf (fun q => absurd h1 (Int32.not_lt.mpr q.1)), fun h1 => ⟨fun h2 => hf (fun q => absurd h2 (Int32.not_lt.mpr q.2)), fun h2 => ht ⟨Int32.not_lt.mp h1, Int32.not_lt.mp h2⟩⟩⟩
theorem sp_isFamily {x : Int32} (ht : 0 ≤ x ∧ x ≤ 2 → Q (some (.int 1)) σ) (hf : ¬ (0 ≤ x ∧ x ≤ 2) → Q (some (.int 0)) σ) : E G MX4_isFamily (d + 1) 0 [some (.int x)] [] σ Q := by
  apply kX4_isFamily_0
  simp only [ia1, ia2, ia3, ia4, inn, inm, i10, i01, i0n, i1n, i0m, i1m, o_push, o_iload, o_aload, o_istore, o_iinc, o_iadd, o_isub, o_imul, o_iand, o_ior, o_ixor, o_ishl, o_ishr, o_iushr, o_idiv, o_irem, o_ineg, o_dup, o_dup2, o_pop, o_if_eq, o_if_ne, o_if_lt, o_if_ge, o_if_gt, o_if_le, o_icmp_eq, o_icmp_ne, o_icmp_lt, o_icmp_ge, o_icmp_gt, o_icmp_le, o_nonnull, o_lsw2, o_iret, o_zret, o_vret, o_cV0, o_cV1, o_cV2, o_cV3, o_cV4, o_cV5, o_cV6, o_cS1, o_cS2, o_cS3, o_cS4, lg, lset, inB, pushv, c1, okr, at_, List.replicate, true_and, and_true, true_or, or_true, eq_self, forall_const, not_true_eq_false, not_false_eq_true, forall_eq, false_implies, true_implies,  List.length_nil, List.length_cons, Nat.zero_le, Nat.reduceAdd, Nat.reduceLeDiff]
  exact sp_isWithin (fun q => ⟨Or.inr rfl, ht q⟩) (fun q => ⟨Or.inl rfl, hf q⟩)
theorem sp_isMeasure {x : Int32} (ht : 0 ≤ x ∧ x ≤ 3 → Q (some (.int 1)) σ) (hf : ¬ (0 ≤ x ∧ x ≤ 3) → Q (some (.int 0)) σ) : E G MX4_isMeasure (d + 1) 0 [some (.int x)] [] σ Q := by
  apply kX4_isMeasure_0
  simp only [ia1, ia2, ia3, ia4, inn, inm, i10, i01, i0n, i1n, i0m, i1m, o_push, o_iload, o_aload, o_istore, o_iinc, o_iadd, o_isub, o_imul, o_iand, o_ior, o_ixor, o_ishl, o_ishr, o_iushr, o_idiv, o_irem, o_ineg, o_dup, o_dup2, o_pop, o_if_eq, o_if_ne, o_if_lt, o_if_ge, o_if_gt, o_if_le, o_icmp_eq, o_icmp_ne, o_icmp_lt, o_icmp_ge, o_icmp_gt, o_icmp_le, o_nonnull, o_lsw2, o_iret, o_zret, o_vret, o_cV0, o_cV1, o_cV2, o_cV3, o_cV4, o_cV5, o_cV6, o_cS1, o_cS2, o_cS3, o_cS4, lg, lset, inB, pushv, c1, okr, at_, List.replicate, true_and, and_true, true_or, or_true, eq_self, forall_const, not_true_eq_false, not_false_eq_true, forall_eq, false_implies, true_implies,  List.length_nil, List.length_cons, Nat.zero_le, Nat.reduceAdd, Nat.reduceLeDiff]
  exact sp_isWithin (fun q => ⟨Or.inr rfl, ht q⟩) (fun q => ⟨Or.inl rfl, hf q⟩)
theorem sp_isJob {x : Int32} (ht : 0 ≤ x ∧ x ≤ σ 1 5 - 1 → Q (some (.int 1)) σ) (hf : ¬ (0 ≤ x ∧ x ≤ σ 1 5 - 1) → Q (some (.int 0)) σ) : E G MX4_isJob (d + 1) 0 [some (.ref 0), some (.int x)] [] σ Q := by
  apply kX4_isJob_0
  simp only [ia1, ia2, ia3, ia4, inn, inm, i10, i01, i0n, i1n, i0m, i1m, o_push, o_iload, o_aload, o_istore, o_iinc, o_iadd, o_isub, o_imul, o_iand, o_ior, o_ixor, o_ishl, o_ishr, o_iushr, o_idiv, o_irem, o_ineg, o_dup, o_dup2, o_pop, o_if_eq, o_if_ne, o_if_lt, o_if_ge, o_if_gt, o_if_le, o_icmp_eq, o_icmp_ne, o_icmp_lt, o_icmp_ge, o_icmp_gt, o_icmp_le, o_nonnull, o_lsw2, o_iret, o_zret, o_vret, o_cV0, o_cV1, o_cV2, o_cV3, o_cV4, o_cV5, o_cV6, o_cS1, o_cS2, o_cS3, o_cS4, lg, lset, inB, pushv, c1, okr, at_, List.replicate, true_and, and_true, true_or, or_true, eq_self, forall_const, not_true_eq_false, not_false_eq_true, forall_eq, false_implies, true_implies,  List.length_nil, List.length_cons, Nat.zero_le, Nat.reduceAdd, Nat.reduceLeDiff, gH0, gS5 isSh1]
  exact sp_isWithin (fun q => ⟨Or.inr rfl, ht q⟩) (fun q => ⟨Or.inl rfl, hf q⟩)
theorem sp_isOfDues {m : Nat} (hm : m < 4) (h : Q (some (.int (if m < 2 then 1 else 0))) σ) : E G MX4_isOfDues d 0 [some (.int (nI m))] [] σ Q := by
  apply kX4_isOfDues_0
  obtain rfl | rfl | rfl | rfl : m = 0 ∨ m = 1 ∨ m = 2 ∨ m = 3 := by omega
  all_goals
    simp only [ia1, ia2, ia3, ia4, inn, inm, i10, i01, i0n, i1n, i0m, i1m, o_push, o_iload, o_aload, o_istore, o_iinc, o_iadd, o_isub, o_imul, o_iand, o_ior, o_ixor, o_ishl, o_ishr, o_iushr, o_idiv, o_irem, o_ineg, o_dup, o_dup2, o_pop, o_if_eq, o_if_ne, o_if_lt, o_if_ge, o_if_gt, o_if_le, o_icmp_eq, o_icmp_ne, o_icmp_lt, o_icmp_ge, o_icmp_gt, o_icmp_le, o_nonnull, o_lsw2, o_iret, o_zret, o_vret, o_cV0, o_cV1, o_cV2, o_cV3, o_cV4, o_cV5, o_cV6, o_cS1, o_cS2, o_cS3, o_cS4, lg, lset, inB, pushv, c1, okr, at_, List.replicate, true_and, and_true, true_or, or_true, eq_self, forall_const, not_true_eq_false, not_false_eq_true, forall_eq, false_implies, true_implies,  List.length_nil, List.length_cons, Nat.zero_le, Nat.reduceAdd, Nat.reduceLeDiff]
    first
      | exact h
      | exact ⟨fun _ => h, fun q => absurd (by decide +kernel) q⟩
      | exact ⟨fun q => absurd q (by decide +kernel), fun _ => ⟨fun q => absurd (by decide +kernel) q, fun _ => h⟩⟩
      | exact ⟨fun q => absurd q (by decide +kernel), fun _ => ⟨fun _ => h, fun q => absurd q (by decide +kernel)⟩⟩
theorem sp_max {x y : Nat} (hx : x < 2 ^ 31) (hy : y < 2 ^ 31) (h : Q (some (.int (nI (max x y)))) σ) : E G MJ9_max_7cf53 d 0 [some (.int (nI x)), some (.int (nI y))] [] σ Q := by
  apply kJ9_max_7cf53_0
  simp only [ia1, ia2, ia3, ia4, inn, inm, i10, i01, i0n, i1n, i0m, i1m, o_push, o_iload, o_aload, o_istore, o_iinc, o_iadd, o_isub, o_imul, o_iand, o_ior, o_ixor, o_ishl, o_ishr, o_iushr, o_idiv, o_irem, o_ineg, o_dup, o_dup2, o_pop, o_if_eq, o_if_ne, o_if_lt, o_if_ge, o_if_gt, o_if_le, o_icmp_eq, o_icmp_ne, o_icmp_lt, o_icmp_ge, o_icmp_gt, o_icmp_le, o_nonnull, o_lsw2, o_iret, o_zret, o_vret, o_cV0, o_cV1, o_cV2, o_cV3, o_cV4, o_cV5, o_cV6, o_cS1, o_cS2, o_cS3, o_cS4, lg, lset, inB, pushv, c1, okr, at_, List.replicate, true_and, and_true, true_or, or_true, eq_self, forall_const, not_true_eq_false, not_false_eq_true, forall_eq, false_implies, true_implies,  List.length_nil, List.length_cons, Nat.zero_le, Nat.reduceAdd, Nat.reduceLeDiff, nLt hx hy]
  refine ⟨fun q => ?_, fun q => ?_⟩
  · rw [Nat.max_eq_right (by omega)] at h; exact h
  · rw [Nat.max_eq_left (by omega)] at h; exact h
theorem sp_min {x y : Nat} (hx : x < 2 ^ 31) (hy : y < 2 ^ 31) (h : Q (some (.int (nI (min x y)))) σ) : E G MJ9_min_7cf53 d 0 [some (.int (nI x)), some (.int (nI y))] [] σ Q := by
  apply kJ9_min_7cf53_0
  simp only [ia1, ia2, ia3, ia4, inn, inm, i10, i01, i0n, i1n, i0m, i1m, o_push, o_iload, o_aload, o_istore, o_iinc, o_iadd, o_isub, o_imul, o_iand, o_ior, o_ixor, o_ishl, o_ishr, o_iushr, o_idiv, o_irem, o_ineg, o_dup, o_dup2, o_pop, o_if_eq, o_if_ne, o_if_lt, o_if_ge, o_if_gt, o_if_le, o_icmp_eq, o_icmp_ne, o_icmp_lt, o_icmp_ge, o_icmp_gt, o_icmp_le, o_nonnull, o_lsw2, o_iret, o_zret, o_vret, o_cV0, o_cV1, o_cV2, o_cV3, o_cV4, o_cV5, o_cV6, o_cS1, o_cS2, o_cS3, o_cS4, lg, lset, inB, pushv, c1, okr, at_, List.replicate, true_and, and_true, true_or, or_true, eq_self, forall_const, not_true_eq_false, not_false_eq_true, forall_eq, false_implies, true_implies,  List.length_nil, List.length_cons, Nat.zero_le, Nat.reduceAdd, Nat.reduceLeDiff, nLt hy hx]
  refine ⟨fun q => ?_, fun q => ?_⟩
  · rw [Nat.min_eq_right (by omega)] at h; exact h
  · rw [Nat.min_eq_left (by omega)] at h; exact h
theorem sp_joined {m x y : Nat} (hm : m < 2 ^ 31) (hx : x < 2 ^ 31) (hy : y < 2 ^ 31) (h : Q (some (.int (nI (jn m x y)))) σ) : E G MX4_joined (d + 1) 0 [some (.int (nI m)), some (.int (nI x)), some (.int (nI y))] [] σ Q := by
  apply kX4_joined_0
  simp only [ia1, ia2, ia3, ia4, inn, inm, i10, i01, i0n, i1n, i0m, i1m, o_push, o_iload, o_aload, o_istore, o_iinc, o_iadd, o_isub, o_imul, o_iand, o_ior, o_ixor, o_ishl, o_ishr, o_iushr, o_idiv, o_irem, o_ineg, o_dup, o_dup2, o_pop, o_if_eq, o_if_ne, o_if_lt, o_if_ge, o_if_gt, o_if_le, o_icmp_eq, o_icmp_ne, o_icmp_lt, o_icmp_ge, o_icmp_gt, o_icmp_le, o_nonnull, o_lsw2, o_iret, o_zret, o_vret, o_cV0, o_cV1, o_cV2, o_cV3, o_cV4, o_cV5, o_cV6, o_cS1, o_cS2, o_cS3, o_cS4, lg, lset, inB, pushv, c1, okr, at_, List.replicate, true_and, and_true, true_or, or_true, eq_self, forall_const, not_true_eq_false, not_false_eq_true, forall_eq, false_implies, true_implies,  List.length_nil, List.length_cons, Nat.zero_le, Nat.reduceAdd, Nat.reduceLeDiff, n0, nEq hm (show 0 < 2 ^ 31 by omega), nI_add]
  refine ⟨fun q => ?_, fun q => sp_max hx hy ?_⟩
  · rw [jn, if_neg q] at h; exact h
  · rw [jn, if_pos q] at h; exact h
theorem sp_volumeOfSet {S : Nat} (hb : IsSh b) (hS : S < 2 ^ 31) (hV : VOk V) (hs : ShAt σ b V) (h : Q (some (.int (nI (sumS (fun j => V (17 + j)) S (V 9))))) σ) :
    E G MX3_volumeOfSet (d + 1) 0 [some (.ref b), some (.int (nI S)), none, none] [] σ Q := by
  have hn := hV.2.2.2.2.1
  apply kX3_volumeOfSet_0
  simp only [ia1, ia2, ia3, ia4, inn, inm, i10, i01, i0n, i1n, i0m, i1m, o_push, o_iload, o_aload, o_istore, o_iinc, o_iadd, o_isub, o_imul, o_iand, o_ior, o_ixor, o_ishl, o_ishr, o_iushr, o_idiv, o_irem, o_ineg, o_dup, o_dup2, o_pop, o_if_eq, o_if_ne, o_if_lt, o_if_ge, o_if_gt, o_if_le, o_icmp_eq, o_icmp_ne, o_icmp_lt, o_icmp_ge, o_icmp_gt, o_icmp_le, o_nonnull, o_lsw2, o_iret, o_zret, o_vret, o_cV0, o_cV1, o_cV2, o_cV3, o_cV4, o_cV5, o_cV6, o_cS1, o_cS2, o_cS3, o_cS4, lg, lset, inB, pushv, c1, okr, at_, List.replicate, true_and, and_true, true_or, or_true, eq_self, forall_const, not_true_eq_false, not_false_eq_true, forall_eq, false_implies, true_implies,  List.length_nil, List.length_cons, Nat.zero_le, Nat.reduceAdd, Nat.reduceLeDiff, n0]
  suffices H : ∀ k j, k + j = V 9 → E G MX3_volumeOfSet (d + 1) 4 [some (.ref b), some (.int (nI S)), some (.int (nI (sumS (fun j => V (17 + j)) S j))), some (.int (nI j))] [] σ Q from H (V 9) 0 (by omega)
  intro k
  induction k with
  | zero =>
    intro j hjn
    obtain rfl : j = V 9 := by omega
    apply kX3_volumeOfSet_4
    simp only [ia1, ia2, ia3, ia4, inn, inm, i10, i01, i0n, i1n, i0m, i1m, o_push, o_iload, o_aload, o_istore, o_iinc, o_iadd, o_isub, o_imul, o_iand, o_ior, o_ixor, o_ishl, o_ishr, o_iushr, o_idiv, o_irem, o_ineg, o_dup, o_dup2, o_pop, o_if_eq, o_if_ne, o_if_lt, o_if_ge, o_if_gt, o_if_le, o_icmp_eq, o_icmp_ne, o_icmp_lt, o_icmp_ge, o_icmp_gt, o_icmp_le, o_nonnull, o_lsw2, o_iret, o_zret, o_vret, o_cV0, o_cV1, o_cV2, o_cV3, o_cV4, o_cV5, o_cV6, o_cS1, o_cS2, o_cS3, o_cS4, lg, lset, inB, pushv, c1, okr, at_, List.replicate, true_and, and_true, true_or, or_true, eq_self, forall_const, not_true_eq_false, not_false_eq_true, forall_eq, false_implies, true_implies,  List.length_nil, List.length_cons, Nat.zero_le, Nat.reduceAdd, Nat.reduceLeDiff, gS5 hb, hs.n]
    exact ⟨fun _ => h, fun q => absurd (nI_le (Nat.le_refl _) (by omega)) q⟩
  | succ k ih =>
    intro j hjn
    apply kX3_volumeOfSet_4
    simp (disch := omega) only [ia1, ia2, ia3, ia4, inn, inm, i10, i01, i0n, i1n, i0m, i1m, o_push, o_iload, o_aload, o_istore, o_iinc, o_iadd, o_isub, o_imul, o_iand, o_ior, o_ixor, o_ishl, o_ishr, o_iushr, o_idiv, o_irem, o_ineg, o_dup, o_dup2, o_pop, o_if_eq, o_if_ne, o_if_lt, o_if_ge, o_if_gt, o_if_le, o_icmp_eq, o_icmp_ne, o_icmp_lt, o_icmp_ge, o_icmp_gt, o_icmp_le, o_nonnull, o_lsw2, o_iret, o_zret, o_vret, o_cV0, o_cV1, o_cV2, o_cV3, o_cV4, o_cV5, o_cV6, o_cS1, o_cS2, o_cS3, o_cS4, lg, lset, inB, pushv, c1, okr, at_, List.replicate, true_and, and_true, true_or, or_true, eq_self, forall_const, not_true_eq_false, not_false_eq_true, forall_eq, false_implies, true_implies,  List.length_nil, List.length_cons, Nat.zero_le, Nat.reduceAdd, Nat.reduceLeDiff, gS5 hb, gS7 hb, hs.n, ld7 hb.2.2.2.2.1, nLe, nI_1]
    have nx := ih (j + 1) (by omega)
    refine ⟨fun q => absurd q (by omega), fun _ => sp_contains hS (by omega) (fun hbit => ?_) (fun hbit => ?_)⟩
    · simp (disch := omega) only [ia1, ia2, ia3, ia4, inn, inm, i10, i01, i0n, i1n, i0m, i1m, o_push, o_iload, o_aload, o_istore, o_iinc, o_iadd, o_isub, o_imul, o_iand, o_ior, o_ixor, o_ishl, o_ishr, o_iushr, o_idiv, o_irem, o_ineg, o_dup, o_dup2, o_pop, o_if_eq, o_if_ne, o_if_lt, o_if_ge, o_if_gt, o_if_le, o_icmp_eq, o_icmp_ne, o_icmp_lt, o_icmp_ge, o_icmp_gt, o_icmp_le, o_nonnull, o_lsw2, o_iret, o_zret, o_vret, o_cV0, o_cV1, o_cV2, o_cV3, o_cV4, o_cV5, o_cV6, o_cS1, o_cS2, o_cS3, o_cS4, lg, lset, inB, pushv, c1, okr, at_, List.replicate, true_and, and_true, true_or, or_true, eq_self, forall_const, not_true_eq_false, not_false_eq_true, forall_eq, false_implies, true_implies,  List.length_nil, List.length_cons, Nat.zero_le, Nat.reduceAdd, Nat.reduceLeDiff, hs.v, nI_add]
      simpa [sumS, hbit] using nx
    · simp only [ia1, ia2, ia3, ia4, inn, inm, i10, i01, i0n, i1n, i0m, i1m, o_push, o_iload, o_aload, o_istore, o_iinc, o_iadd, o_isub, o_imul, o_iand, o_ior, o_ixor, o_ishl, o_ishr, o_iushr, o_idiv, o_irem, o_ineg, o_dup, o_dup2, o_pop, o_if_eq, o_if_ne, o_if_lt, o_if_ge, o_if_gt, o_if_le, o_icmp_eq, o_icmp_ne, o_icmp_lt, o_icmp_ge, o_icmp_gt, o_icmp_le, o_nonnull, o_lsw2, o_iret, o_zret, o_vret, o_cV0, o_cV1, o_cV2, o_cV3, o_cV4, o_cV5, o_cV6, o_cS1, o_cS2, o_cS3, o_cS4, lg, lset, inB, pushv, c1, okr, at_, List.replicate, true_and, and_true, true_or, or_true, eq_self, forall_const, not_true_eq_false, not_false_eq_true, forall_eq, false_implies, true_implies,  List.length_nil, List.length_cons, Nat.zero_le, Nat.reduceAdd, Nat.reduceLeDiff]
      simpa [sumS, hbit] using nx
theorem sp_familyOfSet {S : Nat} (hb : IsSh b) (hS : S < 2 ^ 31) (hV : VOk V) (hs : ShAt σ b V) (h : Q (some (.int (nI (famR V S (V 9))))) σ) :
    E G MX3_familyOfSet (d + 1) 0 [some (.ref b), some (.int (nI S)), none] [] σ Q := by
  have hn := hV.2.2.2.2.1
  apply kX3_familyOfSet_0
  simp only [ia1, ia2, ia3, ia4, inn, inm, i10, i01, i0n, i1n, i0m, i1m, o_push, o_iload, o_aload, o_istore, o_iinc, o_iadd, o_isub, o_imul, o_iand, o_ior, o_ixor, o_ishl, o_ishr, o_iushr, o_idiv, o_irem, o_ineg, o_dup, o_dup2, o_pop, o_if_eq, o_if_ne, o_if_lt, o_if_ge, o_if_gt, o_if_le, o_icmp_eq, o_icmp_ne, o_icmp_lt, o_icmp_ge, o_icmp_gt, o_icmp_le, o_nonnull, o_lsw2, o_iret, o_zret, o_vret, o_cV0, o_cV1, o_cV2, o_cV3, o_cV4, o_cV5, o_cV6, o_cS1, o_cS2, o_cS3, o_cS4, lg, lset, inB, pushv, c1, okr, at_, List.replicate, true_and, and_true, true_or, or_true, eq_self, forall_const, not_true_eq_false, not_false_eq_true, forall_eq, false_implies, true_implies,  List.length_nil, List.length_cons, Nat.zero_le, Nat.reduceAdd, Nat.reduceLeDiff, n0]
  suffices H : ∀ k j, k + j = V 9 → famR V S j = 3 → E G MX3_familyOfSet (d + 1) 2 [some (.ref b), some (.int (nI S)), some (.int (nI j))] [] σ Q from H (V 9) 0 (by omega) rfl
  have hup : ∀ i j, j + i ≤ 7 → famR V S j < 3 → famR V S (j + i) = famR V S j := by
    intro i
    induction i with
    | zero => intros; rfl
    | succ i ih =>
      intro j h1 h2
      rw [← Nat.add_assoc, famR, if_pos (by rw [ih j (by omega) h2]; exact h2), ih j (by omega) h2]
  intro k
  induction k with
  | zero =>
    intro j hjn hj3
    obtain rfl : j = V 9 := by omega
    apply kX3_familyOfSet_2
    simp only [ia1, ia2, ia3, ia4, inn, inm, i10, i01, i0n, i1n, i0m, i1m, o_push, o_iload, o_aload, o_istore, o_iinc, o_iadd, o_isub, o_imul, o_iand, o_ior, o_ixor, o_ishl, o_ishr, o_iushr, o_idiv, o_irem, o_ineg, o_dup, o_dup2, o_pop, o_if_eq, o_if_ne, o_if_lt, o_if_ge, o_if_gt, o_if_le, o_icmp_eq, o_icmp_ne, o_icmp_lt, o_icmp_ge, o_icmp_gt, o_icmp_le, o_nonnull, o_lsw2, o_iret, o_zret, o_vret, o_cV0, o_cV1, o_cV2, o_cV3, o_cV4, o_cV5, o_cV6, o_cS1, o_cS2, o_cS3, o_cS4, lg, lset, inB, pushv, c1, okr, at_, List.replicate, true_and, and_true, true_or, or_true, eq_self, forall_const, not_true_eq_false, not_false_eq_true, forall_eq, false_implies, true_implies,  List.length_nil, List.length_cons, Nat.zero_le, Nat.reduceAdd, Nat.reduceLeDiff, gS5 hb, hs.n]
    rw [hj3] at h
    exact ⟨fun _ => h, fun q => absurd (nI_le (Nat.le_refl _) (by omega)) q⟩
  | succ k ih =>
    intro j hjn hj3
    apply kX3_familyOfSet_2
    simp (disch := omega) only [ia1, ia2, ia3, ia4, inn, inm, i10, i01, i0n, i1n, i0m, i1m, o_push, o_iload, o_aload, o_istore, o_iinc, o_iadd, o_isub, o_imul, o_iand, o_ior, o_ixor, o_ishl, o_ishr, o_iushr, o_idiv, o_irem, o_ineg, o_dup, o_dup2, o_pop, o_if_eq, o_if_ne, o_if_lt, o_if_ge, o_if_gt, o_if_le, o_icmp_eq, o_icmp_ne, o_icmp_lt, o_icmp_ge, o_icmp_gt, o_icmp_le, o_nonnull, o_lsw2, o_iret, o_zret, o_vret, o_cV0, o_cV1, o_cV2, o_cV3, o_cV4, o_cV5, o_cV6, o_cS1, o_cS2, o_cS3, o_cS4, lg, lset, inB, pushv, c1, okr, at_, List.replicate, true_and, and_true, true_or, or_true, eq_self, forall_const, not_true_eq_false, not_false_eq_true, forall_eq, false_implies, true_implies,  List.length_nil, List.length_cons, Nat.zero_le, Nat.reduceAdd, Nat.reduceLeDiff, gS5 hb, gS6 hb, hs.n, ld7 hb.2.2.2.1, nLe, nI_1]
    have h3 := (hV.2.2.2.2.2.1 j (by omega)).1
    refine ⟨fun q => absurd q (by omega), fun _ => sp_contains hS (by omega) (fun hbit => ?_) (fun hbit => ?_)⟩
    rotate_left
    · simp only [ia1, ia2, ia3, ia4, inn, inm, i10, i01, i0n, i1n, i0m, i1m, o_push, o_iload, o_aload, o_istore, o_iinc, o_iadd, o_isub, o_imul, o_iand, o_ior, o_ixor, o_ishl, o_ishr, o_iushr, o_idiv, o_irem, o_ineg, o_dup, o_dup2, o_pop, o_if_eq, o_if_ne, o_if_lt, o_if_ge, o_if_gt, o_if_le, o_icmp_eq, o_icmp_ne, o_icmp_lt, o_icmp_ge, o_icmp_gt, o_icmp_le, o_nonnull, o_lsw2, o_iret, o_zret, o_vret, o_cV0, o_cV1, o_cV2, o_cV3, o_cV4, o_cV5, o_cV6, o_cS1, o_cS2, o_cS3, o_cS4, lg, lset, inB, pushv, c1, okr, at_, List.replicate, true_and, and_true, true_or, or_true, eq_self, forall_const, not_true_eq_false, not_false_eq_true, forall_eq, false_implies, true_implies,  List.length_nil, List.length_cons, Nat.zero_le, Nat.reduceAdd, Nat.reduceLeDiff]
      exact ih (j + 1) (by omega) (by rw [famR, hj3]; simp [hbit])
    · simp (disch := omega) only [ia1, ia2, ia3, ia4, inn, inm, i10, i01, i0n, i1n, i0m, i1m, o_push, o_iload, o_aload, o_istore, o_iinc, o_iadd, o_isub, o_imul, o_iand, o_ior, o_ixor, o_ishl, o_ishr, o_iushr, o_idiv, o_irem, o_ineg, o_dup, o_dup2, o_pop, o_if_eq, o_if_ne, o_if_lt, o_if_ge, o_if_gt, o_if_le, o_icmp_eq, o_icmp_ne, o_icmp_lt, o_icmp_ge, o_icmp_gt, o_icmp_le, o_nonnull, o_lsw2, o_iret, o_zret, o_vret, o_cV0, o_cV1, o_cV2, o_cV3, o_cV4, o_cV5, o_cV6, o_cS1, o_cS2, o_cS3, o_cS4, lg, lset, inB, pushv, c1, okr, at_, List.replicate, true_and, and_true, true_or, or_true, eq_self, forall_const, not_true_eq_false, not_false_eq_true, forall_eq, false_implies, true_implies,  List.length_nil, List.length_cons, Nat.zero_le, Nat.reduceAdd, Nat.reduceLeDiff, hs.f]
      have e : famR V S (j + 1) = V (10 + j) := by rw [famR, hj3]; simp [hbit]
      have := hup k (j + 1) (by omega) (by rw [e]; exact h3)
      rw [show j + 1 + k = V 9 by omega, e] at this
      rw [this] at h
      exact h
theorem sp_takes {g f : Nat} (hb : IsSh b) (hV : VOk V) (hs : ShAt σ b V) (hg : g < 4) (hf : f < 4) (h : Q (some (.int (nI (tk V g f)))) σ) : E G MX3_takes d 0 [some (.ref b), some (.int (nI g)), some (.int (nI f)), none] [] σ Q := by
  have h1 := ht_le hV g
  have h2 := ht_le hV f
  have h4 := hV.2.2.1
  have h5 := hV.2.2.2.1
  apply kX3_takes_0
  simp (disch := omega) only [ia1, ia2, ia3, ia4, inn, inm, i10, i01, i0n, i1n, i0m, i1m, o_push, o_iload, o_aload, o_istore, o_iinc, o_iadd, o_isub, o_imul, o_iand, o_ior, o_ixor, o_ishl, o_ishr, o_iushr, o_idiv, o_irem, o_ineg, o_dup, o_dup2, o_pop, o_if_eq, o_if_ne, o_if_lt, o_if_ge, o_if_gt, o_if_le, o_icmp_eq, o_icmp_ne, o_icmp_lt, o_icmp_ge, o_icmp_gt, o_icmp_le, o_nonnull, o_lsw2, o_iret, o_zret, o_vret, o_cV0, o_cV1, o_cV2, o_cV3, o_cV4, o_cV5, o_cV6, o_cS1, o_cS2, o_cS3, o_cS4, lg, lset, inB, pushv, c1, okr, at_, List.replicate, true_and, and_true, true_or, or_true, eq_self, forall_const, not_true_eq_false, not_false_eq_true, forall_eq, false_implies, true_implies,  List.length_nil, List.length_cons, Nat.zero_le, Nat.reduceAdd, Nat.reduceLeDiff, gS0 hb, gS1 hb, gS3 hb, gS4 hb, ld4 hb.2.1, ld4 hb.2.2.1, hs.h, hs.c, hs.up, hs.down, n0, sub_le0]
  refine ⟨fun q => ?_, fun q => ?_⟩
  · rw [tk_neg _ (by omega) _ (by omega) _ (by omega) q, nI_add]
    rw [tk, if_neg (by omega)] at h
    exact h
  · rw [tk_pos _ (by omega) _ (by omega) _ (by omega) (by omega), nI_add]
    rw [tk, if_pos (by omega)] at h
    exact h
theorem sp_late {m S e : Nat} (hb : IsSh b) (hm : m < 4) (hS : S < 2 ^ 31) (he : e < 600) (hV : VOk V) (hs : ShAt σ b V) (h : Q (some (.int (nI (lateR m V S e (V 9))))) σ) :
    E G MX3_late (d + 1) 0 [some (.ref b), some (.int (nI m)), some (.int (nI S)), some (.int (nI e)), none, none, none] [] σ Q := by
  have hn := hV.2.2.2.2.1
  apply kX3_late_0
  simp only [ia1, ia2, ia3, ia4, inn, inm, i10, i01, i0n, i1n, i0m, i1m, o_push, o_iload, o_aload, o_istore, o_iinc, o_iadd, o_isub, o_imul, o_iand, o_ior, o_ixor, o_ishl, o_ishr, o_iushr, o_idiv, o_irem, o_ineg, o_dup, o_dup2, o_pop, o_if_eq, o_if_ne, o_if_lt, o_if_ge, o_if_gt, o_if_le, o_icmp_eq, o_icmp_ne, o_icmp_lt, o_icmp_ge, o_icmp_gt, o_icmp_le, o_nonnull, o_lsw2, o_iret, o_zret, o_vret, o_cV0, o_cV1, o_cV2, o_cV3, o_cV4, o_cV5, o_cV6, o_cS1, o_cS2, o_cS3, o_cS4, lg, lset, inB, pushv, c1, okr, at_, List.replicate, true_and, and_true, true_or, or_true, eq_self, forall_const, not_true_eq_false, not_false_eq_true, forall_eq, false_implies, true_implies,  List.length_nil, List.length_cons, Nat.zero_le, Nat.reduceAdd, Nat.reduceLeDiff, n0]
  suffices H : ∀ k j (x : Option Value), k + j = V 9 → E G MX3_late (d + 1) 6 [some (.ref b), some (.int (nI m)), some (.int (nI S)), some (.int (nI e)), some (.int (nI (lateR m V S e j))), some (.int (nI j)), x] [] σ Q from H (V 9) 0 _ (by omega)
  intro k
  induction k with
  | zero =>
    intro j x hjn
    obtain rfl : j = V 9 := by omega
    apply kX3_late_6
    simp only [ia1, ia2, ia3, ia4, inn, inm, i10, i01, i0n, i1n, i0m, i1m, o_push, o_iload, o_aload, o_istore, o_iinc, o_iadd, o_isub, o_imul, o_iand, o_ior, o_ixor, o_ishl, o_ishr, o_iushr, o_idiv, o_irem, o_ineg, o_dup, o_dup2, o_pop, o_if_eq, o_if_ne, o_if_lt, o_if_ge, o_if_gt, o_if_le, o_icmp_eq, o_icmp_ne, o_icmp_lt, o_icmp_ge, o_icmp_gt, o_icmp_le, o_nonnull, o_lsw2, o_iret, o_zret, o_vret, o_cV0, o_cV1, o_cV2, o_cV3, o_cV4, o_cV5, o_cV6, o_cS1, o_cS2, o_cS3, o_cS4, lg, lset, inB, pushv, c1, okr, at_, List.replicate, true_and, and_true, true_or, or_true, eq_self, forall_const, not_true_eq_false, not_false_eq_true, forall_eq, false_implies, true_implies,  List.length_nil, List.length_cons, Nat.zero_le, Nat.reduceAdd, Nat.reduceLeDiff, gS5 hb, hs.n]
    exact ⟨fun _ => h, fun q => absurd (nI_le (Nat.le_refl _) (by omega)) q⟩
  | succ k ih =>
    intro j x hjn
    have hl := lateR_le (m := m) (V := V) (S := S) (e := e) j
    have hje : j * e ≤ 7 * 600 := Nat.mul_le_mul (by omega) (by omega)
    have hd := (hV.2.2.2.2.2.1 j (by omega)).2.2
    have nx := fun y => ih (j + 1) y (by omega)
    apply kX3_late_6
    simp (disch := omega) only [ia1, ia2, ia3, ia4, inn, inm, i10, i01, i0n, i1n, i0m, i1m, o_push, o_iload, o_aload, o_istore, o_iinc, o_iadd, o_isub, o_imul, o_iand, o_ior, o_ixor, o_ishl, o_ishr, o_iushr, o_idiv, o_irem, o_ineg, o_dup, o_dup2, o_pop, o_if_eq, o_if_ne, o_if_lt, o_if_ge, o_if_gt, o_if_le, o_icmp_eq, o_icmp_ne, o_icmp_lt, o_icmp_ge, o_icmp_gt, o_icmp_le, o_nonnull, o_lsw2, o_iret, o_zret, o_vret, o_cV0, o_cV1, o_cV2, o_cV3, o_cV4, o_cV5, o_cV6, o_cS1, o_cS2, o_cS3, o_cS4, lg, lset, inB, pushv, c1, okr, at_, List.replicate, true_and, and_true, true_or, or_true, eq_self, forall_const, not_true_eq_false, not_false_eq_true, forall_eq, false_implies, true_implies,  List.length_nil, List.length_cons, Nat.zero_le, Nat.reduceAdd, Nat.reduceLeDiff, gS5 hb, gS8 hb, hs.n, ld7 hb.2.2.2.2.2, hs.d, nLe, nI_1, n0, over_le0]
    refine ⟨fun q => absurd q (by omega), fun _ => ⟨fun q => ?_, fun q => sp_contains hS (by omega) (fun hbit => ?_) (fun hbit => ?_)⟩⟩
    · have e1 : lateR m V S e (j + 1) = lateR m V S e j := by
        rw [lateR, show e - V (24 + j) = 0 by omega]
        simp [jn]
      rw [e1] at nx
      exact nx _
    · simp (disch := omega) only [ia1, ia2, ia3, ia4, inn, inm, i10, i01, i0n, i1n, i0m, i1m, o_push, o_iload, o_aload, o_istore, o_iinc, o_iadd, o_isub, o_imul, o_iand, o_ior, o_ixor, o_ishl, o_ishr, o_iushr, o_idiv, o_irem, o_ineg, o_dup, o_dup2, o_pop, o_if_eq, o_if_ne, o_if_lt, o_if_ge, o_if_gt, o_if_le, o_icmp_eq, o_icmp_ne, o_icmp_lt, o_icmp_ge, o_icmp_gt, o_icmp_le, o_nonnull, o_lsw2, o_iret, o_zret, o_vret, o_cV0, o_cV1, o_cV2, o_cV3, o_cV4, o_cV5, o_cV6, o_cS1, o_cS2, o_cS3, o_cS4, lg, lset, inB, pushv, c1, okr, at_, List.replicate, true_and, and_true, true_or, or_true, eq_self, forall_const, not_true_eq_false, not_false_eq_true, forall_eq, false_implies, true_implies,  List.length_nil, List.length_cons, Nat.zero_le, Nat.reduceAdd, Nat.reduceLeDiff, n0, nEq, nSub, nI_add]
      have e1 : lateR m V S e (j + 1) = jn m (lateR m V S e j) (e - V (24 + j)) := by rw [lateR]; simp [hbit]
      refine ⟨fun q => ?_, fun q => sp_max (by omega) (by omega) ?_⟩
      · rw [e1, jn, if_neg q] at nx
        exact nx _
      · rw [e1, jn, if_pos q] at nx
        simp only [ia1, ia2, ia3, ia4, inn, inm, i10, i01, i0n, i1n, i0m, i1m, o_push, o_iload, o_aload, o_istore, o_iinc, o_iadd, o_isub, o_imul, o_iand, o_ior, o_ixor, o_ishl, o_ishr, o_iushr, o_idiv, o_irem, o_ineg, o_dup, o_dup2, o_pop, o_if_eq, o_if_ne, o_if_lt, o_if_ge, o_if_gt, o_if_le, o_icmp_eq, o_icmp_ne, o_icmp_lt, o_icmp_ge, o_icmp_gt, o_icmp_le, o_nonnull, o_lsw2, o_iret, o_zret, o_vret, o_cV0, o_cV1, o_cV2, o_cV3, o_cV4, o_cV5, o_cV6, o_cS1, o_cS2, o_cS3, o_cS4, lg, lset, inB, pushv, c1, okr, at_, List.replicate, true_and, and_true, true_or, or_true, eq_self, forall_const, not_true_eq_false, not_false_eq_true, forall_eq, false_implies, true_implies,  List.length_nil, List.length_cons, Nat.zero_le, Nat.reduceAdd, Nat.reduceLeDiff, nI_1]
        exact nx _
    · have e1 : lateR m V S e (j + 1) = lateR m V S e j := by rw [lateR]; simp [hbit]
      rw [e1] at nx
      simp only [ia1, ia2, ia3, ia4, inn, inm, i10, i01, i0n, i1n, i0m, i1m, o_push, o_iload, o_aload, o_istore, o_iinc, o_iadd, o_isub, o_imul, o_iand, o_ior, o_ixor, o_ishl, o_ishr, o_iushr, o_idiv, o_irem, o_ineg, o_dup, o_dup2, o_pop, o_if_eq, o_if_ne, o_if_lt, o_if_ge, o_if_gt, o_if_le, o_icmp_eq, o_icmp_ne, o_icmp_lt, o_icmp_ge, o_icmp_gt, o_icmp_le, o_nonnull, o_lsw2, o_iret, o_zret, o_vret, o_cV0, o_cV1, o_cV2, o_cV3, o_cV4, o_cV5, o_cV6, o_cS1, o_cS2, o_cS3, o_cS4, lg, lset, inB, pushv, c1, okr, at_, List.replicate, true_and, and_true, true_or, or_true, eq_self, forall_const, not_true_eq_false, not_false_eq_true, forall_eq, false_implies, true_implies,  List.length_nil, List.length_cons, Nat.zero_le, Nat.reduceAdd, Nat.reduceLeDiff]
      exact nx _
end LEAFC
