/-! images and counts of the reference -/
def fsR (V : Nat → Nat) : Nat → Nat
  | 0 => 0
  | n + 1 => fsR V n ||| 2 ^ V (10 + n)
theorem fsR_lt {V : Nat → Nat} (hV : VOk V) : ∀ n, n ≤ 7 → fsR V n < 8
  | 0, _ => by simp [fsR]
  | n + 1, hn => Nat.or_lt_two_pow (n := 3) (fsR_lt hV n (by omega)) (Nat.pow_lt_pow_right (by omega) (hV.2.2.2.2.2.1 n (by omega)).1)
theorem fsR_bit {V : Nat → Nat} {f : Nat} : ∀ n, (fsR V n).testBit f = !(memR V f n == 0)
  | 0 => by simp [fsR, memR]
  | n + 1 => by
    have ih := fsR_bit (V := V) (f := f) n
    unfold fsR memR
    rw [tb_or1, ih]
    by_cases h : V (10 + n) = f
    · rw [if_pos h]
      have : ¬ (memR V f n ||| 2 ^ n) = 0 := fun z => by
        have z2 : 2 ^ n ≤ memR V f n ||| 2 ^ n := Nat.right_le_or
        have z3 := Nat.two_pow_pos n
        omega
      simp [h, this]
    · rw [if_neg h]; simp [h]
theorem fs_sum : ∀ s, s < 8 → (nI s &&& nI 1) + (nI s >>> (nI 1 &&& 31) &&& nI 1) + (nI s >>> (nI 2 &&& 31) &&& nI 1) = nI ((if s.testBit 0 = true then 1 else 0) + (if s.testBit 1 = true then 1 else 0) + (if s.testBit 2 = true then 1 else 0)) := by decide +kernel
section PUBN
variable {G : Gp} {d : Nat} {Q : Option Value → Mem → Prop} {σ : Mem} {A : ASt} {V : Nat → Nat}
theorem r_familiesUsed (hV : VOk V) (hR : RAt σ V) (h : Q (some (.int (nI (fuR V 3)))) σ) : E G MX5_familiesUsed (d + 1) 0 [some (.ref 57), none, none] [] σ Q := by
  have hn := hV.2.2.2.2.1
  apply kX5_familiesUsed_0
  simp only [ia1, ia2, ia3, ia4, inn, inm, i10, i01, i0n, i1n, i0m, i1m, o_push, o_iload, o_aload, o_istore, o_iinc, o_iadd, o_isub, o_imul, o_iand, o_ior, o_ixor, o_ishl, o_ishr, o_iushr, o_idiv, o_irem, o_ineg, o_dup, o_dup2, o_pop, o_if_eq, o_if_ne, o_if_lt, o_if_ge, o_if_gt, o_if_le, o_icmp_eq, o_icmp_ne, o_icmp_lt, o_icmp_ge, o_icmp_gt, o_icmp_le, o_nonnull, o_lsw2, o_iret, o_zret, o_vret, o_cV0, o_cV1, o_cV2, o_cV3, o_cV4, o_cV5, o_cV6, o_cS1, o_cS2, o_cS3, o_cS4, lg, lset, inB, pushv, c1, okr, at_, List.replicate, true_and, and_true, true_or, or_true, eq_self, forall_const, not_true_eq_false, not_false_eq_true, forall_eq, false_implies, true_implies,  List.length_nil, List.length_cons, Nat.zero_le, Nat.reduceAdd, Nat.reduceLeDiff, n0]
  suffices H : ∀ k j, k + j = V 9 → E G MX5_familiesUsed (d + 1) 4 [some (.ref 57), some (.int (nI (fsR V j))), some (.int (nI j))] [] σ Q from H (V 9) 0 (by omega)
  intro k
  induction k with
  | zero =>
    intro j hjn
    obtain rfl : j = V 9 := by omega
    apply kX5_familiesUsed_4
    simp only [ia1, ia2, ia3, ia4, inn, inm, i10, i01, i0n, i1n, i0m, i1m, o_push, o_iload, o_aload, o_istore, o_iinc, o_iadd, o_isub, o_imul, o_iand, o_ior, o_ixor, o_ishl, o_ishr, o_iushr, o_idiv, o_irem, o_ineg, o_dup, o_dup2, o_pop, o_if_eq, o_if_ne, o_if_lt, o_if_ge, o_if_gt, o_if_le, o_icmp_eq, o_icmp_ne, o_icmp_lt, o_icmp_ge, o_icmp_gt, o_icmp_le, o_nonnull, o_lsw2, o_iret, o_zret, o_vret, o_cV0, o_cV1, o_cV2, o_cV3, o_cV4, o_cV5, o_cV6, o_cS1, o_cS2, o_cS3, o_cS4, lg, lset, inB, pushv, c1, okr, at_, List.replicate, true_and, and_true, true_or, or_true, eq_self, forall_const, not_true_eq_false, not_false_eq_true, forall_eq, false_implies, true_implies,  List.length_nil, List.length_cons, Nat.zero_le, Nat.reduceAdd, Nat.reduceLeDiff, sh57k]
    refine r_many hR ?_
    simp (disch := omega) only [ia1, ia2, ia3, ia4, inn, inm, i10, i01, i0n, i1n, i0m, i1m, o_push, o_iload, o_aload, o_istore, o_iinc, o_iadd, o_isub, o_imul, o_iand, o_ior, o_ixor, o_ishl, o_ishr, o_iushr, o_idiv, o_irem, o_ineg, o_dup, o_dup2, o_pop, o_if_eq, o_if_ne, o_if_lt, o_if_ge, o_if_gt, o_if_le, o_icmp_eq, o_icmp_ne, o_icmp_lt, o_icmp_ge, o_icmp_gt, o_icmp_le, o_nonnull, o_lsw2, o_iret, o_zret, o_vret, o_cV0, o_cV1, o_cV2, o_cV3, o_cV4, o_cV5, o_cV6, o_cS1, o_cS2, o_cS3, o_cS4, lg, lset, inB, pushv, c1, okr, at_, List.replicate, true_and, and_true, true_or, or_true, eq_self, forall_const, not_true_eq_false, not_false_eq_true, forall_eq, false_implies, true_implies,  List.length_nil, List.length_cons, Nat.zero_le, Nat.reduceAdd, Nat.reduceLeDiff, nLe, Nat.le_refl, n1, n2]
    rw [fs_sum _ (fsR_lt hV _ hn)]
    simp only [fsR_bit]
    have e : ((if (!(memR V 0 (V 9) == 0)) = true then 1 else 0) + (if (!(memR V 1 (V 9) == 0)) = true then 1 else 0) + (if (!(memR V 2 (V 9) == 0)) = true then 1 else 0) : Nat) = fuR V 3 := by
      simp only [fuR]
      by_cases a : memR V 0 (V 9) = 0 <;> by_cases b : memR V 1 (V 9) = 0 <;> by_cases c : memR V 2 (V 9) = 0 <;> simp [a, b, c]
    rw [e]; exact h
  | succ k ih =>
    intro j hjn
    have hf := (hV.2.2.2.2.2.1 j (by omega)).1
    have nx := ih (j + 1) (by omega)
    apply kX5_familiesUsed_4
    simp only [ia1, ia2, ia3, ia4, inn, inm, i10, i01, i0n, i1n, i0m, i1m, o_push, o_iload, o_aload, o_istore, o_iinc, o_iadd, o_isub, o_imul, o_iand, o_ior, o_ixor, o_ishl, o_ishr, o_iushr, o_idiv, o_irem, o_ineg, o_dup, o_dup2, o_pop, o_if_eq, o_if_ne, o_if_lt, o_if_ge, o_if_gt, o_if_le, o_icmp_eq, o_icmp_ne, o_icmp_lt, o_icmp_ge, o_icmp_gt, o_icmp_le, o_nonnull, o_lsw2, o_iret, o_zret, o_vret, o_cV0, o_cV1, o_cV2, o_cV3, o_cV4, o_cV5, o_cV6, o_cS1, o_cS2, o_cS3, o_cS4, lg, lset, inB, pushv, c1, okr, at_, List.replicate, true_and, and_true, true_or, or_true, eq_self, forall_const, not_true_eq_false, not_false_eq_true, forall_eq, false_implies, true_implies,  List.length_nil, List.length_cons, Nat.zero_le, Nat.reduceAdd, Nat.reduceLeDiff, sh57k]
    refine r_many hR ?_
    simp (disch := omega) only [ia1, ia2, ia3, ia4, inn, inm, i10, i01, i0n, i1n, i0m, i1m, o_push, o_iload, o_aload, o_istore, o_iinc, o_iadd, o_isub, o_imul, o_iand, o_ior, o_ixor, o_ishl, o_ishr, o_iushr, o_idiv, o_irem, o_ineg, o_dup, o_dup2, o_pop, o_if_eq, o_if_ne, o_if_lt, o_if_ge, o_if_gt, o_if_le, o_icmp_eq, o_icmp_ne, o_icmp_lt, o_icmp_ge, o_icmp_gt, o_icmp_le, o_nonnull, o_lsw2, o_iret, o_zret, o_vret, o_cV0, o_cV1, o_cV2, o_cV3, o_cV4, o_cV5, o_cV6, o_cS1, o_cS2, o_cS3, o_cS4, lg, lset, inB, pushv, c1, okr, at_, List.replicate, true_and, and_true, true_or, or_true, eq_self, forall_const, not_true_eq_false, not_false_eq_true, forall_eq, false_implies, true_implies,  List.length_nil, List.length_cons, Nat.zero_le, Nat.reduceAdd, Nat.reduceLeDiff, nLe, gM0, n10, nI_add, ldI sh58, hR _ (show 10 + j < 31 by omega), n1, shl1, fa_or]
    exact ⟨fun q => absurd q (by omega), fun _ => nx⟩
theorem kp_or0 : ∀ k, k < 4 → (k ||| 1).testBit 0 = true ∧ (k ||| 1).testBit 1 = k.testBit 1 ∧ (k ||| 2).testBit 1 = true ∧ (k ||| 2).testBit 0 = k.testBit 0 ∧ (k ||| 1) < 4 ∧ (k ||| 2) < 4 := by decide
theorem r_Ximage {k : Int32} (hA : AOk A) (hI : InvM σ A) (h : ∀ τ, MFr σ τ → InvM τ (opImage A k).2 → Q (some (.int (opImage A k).1)) τ) : E G MX5_image (d + 20) 0 [some (.ref 57), some (.int k), none] [] σ Q := by
  obtain ⟨hR, hP, h3, h4, h5, h6⟩ := id hI
  obtain ⟨o1, o2, o3, o4, -, -⟩ := kp_or0 A.2.2.2.1 hA.2.2
  apply kX5_image_0
  simp only [ia1, ia2, ia3, ia4, inn, inm, i10, i01, i0n, i1n, i0m, i1m, o_push, o_iload, o_aload, o_istore, o_iinc, o_iadd, o_isub, o_imul, o_iand, o_ior, o_ixor, o_ishl, o_ishr, o_iushr, o_idiv, o_irem, o_ineg, o_dup, o_dup2, o_pop, o_if_eq, o_if_ne, o_if_lt, o_if_ge, o_if_gt, o_if_le, o_icmp_eq, o_icmp_ne, o_icmp_lt, o_icmp_ge, o_icmp_gt, o_icmp_le, o_nonnull, o_lsw2, o_iret, o_zret, o_vret, o_cV0, o_cV1, o_cV2, o_cV3, o_cV4, o_cV5, o_cV6, o_cS1, o_cS2, o_cS3, o_cS4, lg, lset, inB, pushv, c1, okr, at_, List.replicate, true_and, and_true, true_or, or_true, eq_self, forall_const, not_true_eq_false, not_false_eq_true, forall_eq, false_implies, true_implies,  List.length_nil, List.length_cons, Nat.zero_le, Nat.reduceAdd, Nat.reduceLeDiff]
  refine r_in (fun q => ?_) (fun q => ?_)
  · obtain ⟨k', -, hk, rfl⟩ := inN (a := 0) (b := 1) (by omega) (by omega) (by rw [← n0, ← n1]; exact q)
    simp only [ia1, ia2, ia3, ia4, inn, inm, i10, i01, i0n, i1n, i0m, i1m, o_push, o_iload, o_aload, o_istore, o_iinc, o_iadd, o_isub, o_imul, o_iand, o_ior, o_ixor, o_ishl, o_ishr, o_iushr, o_idiv, o_irem, o_ineg, o_dup, o_dup2, o_pop, o_if_eq, o_if_ne, o_if_lt, o_if_ge, o_if_gt, o_if_le, o_icmp_eq, o_icmp_ne, o_icmp_lt, o_icmp_ge, o_icmp_gt, o_icmp_le, o_nonnull, o_lsw2, o_iret, o_zret, o_vret, o_cV0, o_cV1, o_cV2, o_cV3, o_cV4, o_cV5, o_cV6, o_cS1, o_cS2, o_cS3, o_cS4, lg, lset, inB, pushv, c1, okr, at_, List.replicate, true_and, and_true, true_or, or_true, eq_self, forall_const, not_true_eq_false, not_false_eq_true, forall_eq, false_implies, true_implies,  List.length_nil, List.length_cons, Nat.zero_le, Nat.reduceAdd, Nat.reduceLeDiff, n0]
    suffices H : ∀ r i (τ : Mem), r + i = 31 → (∀ a, a ≠ 59 → τ a = σ a) → (∀ t, t < i → τ 59 (31 * k' + t) = nI (A.1 t)) → (∀ t, t < 31 → τ 59 (31 * (1 - k') + t) = σ 59 (31 * (1 - k') + t)) → E G MX5_image (d + 20) 14 [some (.ref 57), some (.int (nI k')), some (.int (nI i))] [] τ Q from
      H 31 0 σ (by omega) (fun _ _ => rfl) (fun t ht => by omega) (fun _ _ => rfl)
    intro r
    induction r with
    | zero =>
      intro i τ hi hfr hnew hold
      obtain rfl : i = 31 := by omega
      apply kX5_image_14
      simp (disch := omega) only [ia1, ia2, ia3, ia4, inn, inm, i10, i01, i0n, i1n, i0m, i1m, o_push, o_iload, o_aload, o_istore, o_iinc, o_iadd, o_isub, o_imul, o_iand, o_ior, o_ixor, o_ishl, o_ishr, o_iushr, o_idiv, o_irem, o_ineg, o_dup, o_dup2, o_pop, o_if_eq, o_if_ne, o_if_lt, o_if_ge, o_if_gt, o_if_le, o_icmp_eq, o_icmp_ne, o_icmp_lt, o_icmp_ge, o_icmp_gt, o_icmp_le, o_nonnull, o_lsw2, o_iret, o_zret, o_vret, o_cV0, o_cV1, o_cV2, o_cV3, o_cV4, o_cV5, o_cV6, o_cS1, o_cS2, o_cS3, o_cS4, lg, lset, inB, pushv, c1, okr, at_, List.replicate, true_and, and_true, true_or, or_true, eq_self, forall_const, not_true_eq_false, not_false_eq_true, forall_eq, false_implies, true_implies,  List.length_nil, List.length_cons, Nat.zero_le, Nat.reduceAdd, Nat.reduceLeDiff, n31, nLe, Nat.le_refl, gM2, stZ sh60, nar1]
      have fr : ∀ a, a ≠ 59 → a ≠ 60 → wr τ 60 k' 1 a = σ a := fun a z1 z2 => by rw [wr_o z2]; exact hfr a z1
      have hRn : RAt (wr τ 60 k' 1) A.1 := hR.fr (fr 58 (by omega) (by omega))
      have hPn : wr τ 60 k' 1 57 4 = nI A.2.2.2.2.1 ∧ ∀ i, i < A.2.2.2.2.1 → wr τ 60 k' 1 61 i = nI (A.2.2.2.2.2 i) := ⟨by rw [fr 57 (by omega) (by omega)]; exact hP.1, fun i hi => by rw [fr 61 (by omega) (by omega)]; exact hP.2 i hi⟩
      have h59 : wr τ 60 k' 1 59 = τ 59 := wr_o (by omega)
      obtain rfl | rfl : k' = 0 ∨ k' = 1 := by omega
      · have e : opImage A (nI 0) = (1, (A.1, A.1, A.2.2.1, A.2.2.2.1 ||| 1, A.2.2.2.2)) := by rw [opImage, if_neg (fun z => z q), if_pos n0.symm]
        rw [e] at h
        refine h _ (fun a ha => fr a (by omega) (by omega)) ⟨hRn, hPn, fun z k hk => ?_, fun z k hk => ?_, ?_, ?_⟩
        · rw [h59]; have := hnew k hk; rw [Nat.mul_zero, Nat.zero_add] at this; exact this
        · rw [h59, show 31 + k = 31 * (1 - 0) + k by omega, hold k hk]
          rw [show 31 * (1 - 0) + k = 31 + k by omega]
          exact h4 (by rw [← o2]; exact z) k hk
        · show wr τ 60 0 1 60 0 = if (A.2.2.2.1 ||| 1).testBit 0 = true then 1 else 0
          rw [wr_s, o1]; rfl
        · show wr τ 60 0 1 60 1 = if (A.2.2.2.1 ||| 1).testBit 1 = true then 1 else 0
          rw [wr_n (by omega), hfr 60 (by omega), o2]; exact h6
      · have e : opImage A (nI 1) = (1, (A.1, A.2.1, A.1, A.2.2.2.1 ||| 2, A.2.2.2.2)) := by rw [opImage, if_neg (fun z => z q), if_neg (by decide +kernel)]
        rw [e] at h
        refine h _ (fun a ha => fr a (by omega) (by omega)) ⟨hRn, hPn, fun z k hk => ?_, fun z k hk => ?_, ?_, ?_⟩
        · rw [h59]; have := hold k hk; rw [Nat.sub_self, Nat.mul_zero, Nat.zero_add] at this; rw [this]
          exact h3 (by rw [← o4]; exact z) k hk
        · rw [h59]; have := hnew k hk; rw [Nat.mul_one] at this; exact this
        · show wr τ 60 1 1 60 0 = if (A.2.2.2.1 ||| 2).testBit 0 = true then 1 else 0
          rw [wr_n (by omega), hfr 60 (by omega), o4]; exact h5
        · show wr τ 60 1 1 60 1 = if (A.2.2.2.1 ||| 2).testBit 1 = true then 1 else 0
          rw [wr_s, o3]; rfl
    | succ r ih =>
      intro i τ hi hfr hnew hold
      have hs : τ 58 i = nI (A.1 i) := by rw [hfr 58 (by omega)]; exact hR i (by omega)
      apply kX5_image_14
      simp (disch := omega) only [ia1, ia2, ia3, ia4, inn, inm, i10, i01, i0n, i1n, i0m, i1m, o_push, o_iload, o_aload, o_istore, o_iinc, o_iadd, o_isub, o_imul, o_iand, o_ior, o_ixor, o_ishl, o_ishr, o_iushr, o_idiv, o_irem, o_ineg, o_dup, o_dup2, o_pop, o_if_eq, o_if_ne, o_if_lt, o_if_ge, o_if_gt, o_if_le, o_icmp_eq, o_icmp_ne, o_icmp_lt, o_icmp_ge, o_icmp_gt, o_icmp_le, o_nonnull, o_lsw2, o_iret, o_zret, o_vret, o_cV0, o_cV1, o_cV2, o_cV3, o_cV4, o_cV5, o_cV6, o_cS1, o_cS2, o_cS3, o_cS4, lg, lset, inB, pushv, c1, okr, at_, List.replicate, true_and, and_true, true_or, or_true, eq_self, forall_const, not_true_eq_false, not_false_eq_true, forall_eq, false_implies, true_implies,  List.length_nil, List.length_cons, Nat.zero_le, Nat.reduceAdd, Nat.reduceLeDiff, n31, nLe, gM1, pk_mul, nI_add, gM0, ldI sh58, stI sh59, hs, n1]
      refine ⟨fun q => absurd q (by omega), fun _ => ih (i + 1) _ (by omega) (fun a ha => by rw [wr_o ha]; exact hfr a ha) (fun t ht => ?_) (fun t ht => ?_)⟩
      · by_cases hti : t = i
        · subst hti; rw [wr_s]
        · rw [wr_n (by omega)]; exact hnew t (by omega)
      · rw [wr_n (by omega)]; exact hold t ht
  · have e : opImage A k = (-2, A) := by rw [opImage, if_pos q]
    rw [e] at h
    simp only [ia1, ia2, ia3, ia4, inn, inm, i10, i01, i0n, i1n, i0m, i1m, o_push, o_iload, o_aload, o_istore, o_iinc, o_iadd, o_isub, o_imul, o_iand, o_ior, o_ixor, o_ishl, o_ishr, o_iushr, o_idiv, o_irem, o_ineg, o_dup, o_dup2, o_pop, o_if_eq, o_if_ne, o_if_lt, o_if_ge, o_if_gt, o_if_le, o_icmp_eq, o_icmp_ne, o_icmp_lt, o_icmp_ge, o_icmp_gt, o_icmp_le, o_nonnull, o_lsw2, o_iret, o_zret, o_vret, o_cV0, o_cV1, o_cV2, o_cV3, o_cV4, o_cV5, o_cV6, o_cS1, o_cS2, o_cS3, o_cS4, lg, lset, inB, pushv, c1, okr, at_, List.replicate, true_and, and_true, true_or, or_true, eq_self, forall_const, not_true_eq_false, not_false_eq_true, forall_eq, false_implies, true_implies,  List.length_nil, List.length_cons, Nat.zero_le, Nat.reduceAdd, Nat.reduceLeDiff]
    exact h σ (fun _ _ => rfl) hI
theorem r_Xrestore {k : Int32} (hA : AOk A) (hI : InvM σ A) (h : ∀ τ, MFr σ τ → InvM τ (opRestore A k).2 → Q (some (.int (opRestore A k).1)) τ) : E G MX5_restore (d + 20) 0 [some (.ref 57), some (.int k), none] [] σ Q := by
  obtain ⟨hR, hP, h3, h4, h5, h6⟩ := id hI
  apply kX5_restore_0
  simp only [ia1, ia2, ia3, ia4, inn, inm, i10, i01, i0n, i1n, i0m, i1m, o_push, o_iload, o_aload, o_istore, o_iinc, o_iadd, o_isub, o_imul, o_iand, o_ior, o_ixor, o_ishl, o_ishr, o_iushr, o_idiv, o_irem, o_ineg, o_dup, o_dup2, o_pop, o_if_eq, o_if_ne, o_if_lt, o_if_ge, o_if_gt, o_if_le, o_icmp_eq, o_icmp_ne, o_icmp_lt, o_icmp_ge, o_icmp_gt, o_icmp_le, o_nonnull, o_lsw2, o_iret, o_zret, o_vret, o_cV0, o_cV1, o_cV2, o_cV3, o_cV4, o_cV5, o_cV6, o_cS1, o_cS2, o_cS3, o_cS4, lg, lset, inB, pushv, c1, okr, at_, List.replicate, true_and, and_true, true_or, or_true, eq_self, forall_const, not_true_eq_false, not_false_eq_true, forall_eq, false_implies, true_implies,  List.length_nil, List.length_cons, Nat.zero_le, Nat.reduceAdd, Nat.reduceLeDiff]
  refine r_in (fun q => ?_) (fun q => ?_)
  · obtain ⟨k', -, hk, rfl⟩ := inN (a := 0) (b := 1) (by omega) (by omega) (by rw [← n0, ← n1]; exact q)
    have h60 : σ 60 k' = if A.2.2.2.1.testBit k' = true then 1 else 0 := by
      obtain rfl | rfl : k' = 0 ∨ k' = 1 := by omega
      · exact h5
      · exact h6
    simp (disch := omega) only [ia1, ia2, ia3, ia4, inn, inm, i10, i01, i0n, i1n, i0m, i1m, o_push, o_iload, o_aload, o_istore, o_iinc, o_iadd, o_isub, o_imul, o_iand, o_ior, o_ixor, o_ishl, o_ishr, o_iushr, o_idiv, o_irem, o_ineg, o_dup, o_dup2, o_pop, o_if_eq, o_if_ne, o_if_lt, o_if_ge, o_if_gt, o_if_le, o_icmp_eq, o_icmp_ne, o_icmp_lt, o_icmp_ge, o_icmp_gt, o_icmp_le, o_nonnull, o_lsw2, o_iret, o_zret, o_vret, o_cV0, o_cV1, o_cV2, o_cV3, o_cV4, o_cV5, o_cV6, o_cS1, o_cS2, o_cS3, o_cS4, lg, lset, inB, pushv, c1, okr, at_, List.replicate, true_and, and_true, true_or, or_true, eq_self, forall_const, not_true_eq_false, not_false_eq_true, forall_eq, false_implies, true_implies,  List.length_nil, List.length_cons, Nat.zero_le, Nat.reduceAdd, Nat.reduceLeDiff, gM2, ldZ sh60, h60]
    by_cases hb : A.2.2.2.1.testBit k' = true
    · have hW : ∃ W : Nat → Nat, opRestore A (nI k') = (1, (W, A.2)) ∧ ∀ i, i < 31 → σ 59 (31 * k' + i) = nI (W i) := by
        obtain rfl | rfl : k' = 0 ∨ k' = 1 := by omega
        · exact ⟨A.2.1, by rw [opRestore, if_neg (fun z => z q), fI_n (by omega), if_neg (by rw [hb]; simp), if_pos n0.symm], fun i hi => by rw [Nat.mul_zero, Nat.zero_add]; exact h3 hb i hi⟩
        · exact ⟨A.2.2.1, by rw [opRestore, if_neg (fun z => z q), fI_n (by omega), if_neg (by rw [hb]; simp), if_neg (by decide +kernel)], fun i hi => by rw [Nat.mul_one]; exact h4 hb i hi⟩
      obtain ⟨W, e, hW⟩ := hW
      rw [e] at h
      rw [if_pos hb]
      refine ⟨fun _ => ?_, fun z => absurd z (by decide)⟩
      suffices H : ∀ r i (τ : Mem), r + i = 31 → (∀ a, a ≠ 58 → τ a = σ a) → (∀ t, t < i → τ 58 t = nI (W t)) → E G MX5_restore (d + 20) 26 [some (.ref 57), some (.int (nI k')), some (.int (nI i))] [] τ Q from
        H 31 0 σ (by omega) (fun _ _ => rfl) (fun t ht => by omega)
      intro r
      induction r with
      | zero =>
        intro i τ hi hfr hnew
        obtain rfl : i = 31 := by omega
        apply kX5_restore_26
        simp (disch := omega) only [ia1, ia2, ia3, ia4, inn, inm, i10, i01, i0n, i1n, i0m, i1m, o_push, o_iload, o_aload, o_istore, o_iinc, o_iadd, o_isub, o_imul, o_iand, o_ior, o_ixor, o_ishl, o_ishr, o_iushr, o_idiv, o_irem, o_ineg, o_dup, o_dup2, o_pop, o_if_eq, o_if_ne, o_if_lt, o_if_ge, o_if_gt, o_if_le, o_icmp_eq, o_icmp_ne, o_icmp_lt, o_icmp_ge, o_icmp_gt, o_icmp_le, o_nonnull, o_lsw2, o_iret, o_zret, o_vret, o_cV0, o_cV1, o_cV2, o_cV3, o_cV4, o_cV5, o_cV6, o_cS1, o_cS2, o_cS3, o_cS4, lg, lset, inB, pushv, c1, okr, at_, List.replicate, true_and, and_true, true_or, or_true, eq_self, forall_const, not_true_eq_false, not_false_eq_true, forall_eq, false_implies, true_implies,  List.length_nil, List.length_cons, Nat.zero_le, Nat.reduceAdd, Nat.reduceLeDiff, n31, nLe, Nat.le_refl]
        exact h τ (fun a ha => hfr a (by omega)) (hI.newV hnew hfr)
      | succ r ih =>
        intro i τ hi hfr hnew
        have hs : τ 59 (31 * k' + i) = nI (W i) := by rw [hfr 59 (by omega)]; exact hW i (by omega)
        apply kX5_restore_26
        simp (disch := omega) only [ia1, ia2, ia3, ia4, inn, inm, i10, i01, i0n, i1n, i0m, i1m, o_push, o_iload, o_aload, o_istore, o_iinc, o_iadd, o_isub, o_imul, o_iand, o_ior, o_ixor, o_ishl, o_ishr, o_iushr, o_idiv, o_irem, o_ineg, o_dup, o_dup2, o_pop, o_if_eq, o_if_ne, o_if_lt, o_if_ge, o_if_gt, o_if_le, o_icmp_eq, o_icmp_ne, o_icmp_lt, o_icmp_ge, o_icmp_gt, o_icmp_le, o_nonnull, o_lsw2, o_iret, o_zret, o_vret, o_cV0, o_cV1, o_cV2, o_cV3, o_cV4, o_cV5, o_cV6, o_cS1, o_cS2, o_cS3, o_cS4, lg, lset, inB, pushv, c1, okr, at_, List.replicate, true_and, and_true, true_or, or_true, eq_self, forall_const, not_true_eq_false, not_false_eq_true, forall_eq, false_implies, true_implies,  List.length_nil, List.length_cons, Nat.zero_le, Nat.reduceAdd, Nat.reduceLeDiff, n31, nLe, gM1, pk_mul, nI_add, gM0, ldI sh59, stI sh58, hs, n1]
        refine ⟨fun q => absurd q (by omega), fun _ => ih (i + 1) _ (by omega) (fun a ha => by rw [wr_o ha]; exact hfr a ha) (fun t ht => ?_)⟩
        by_cases hti : t = i
        · subst hti; rw [wr_s]
        · rw [wr_n (by omega)]; exact hnew t (by omega)
    · have e : opRestore A (nI k') = (-3, A) := by rw [opRestore, if_neg (fun z => z q), fI_n (by omega), if_pos (by simpa using hb)]
      rw [e] at h
      rw [if_neg hb]
      exact ⟨fun z => absurd rfl z, fun _ => h σ (fun _ _ => rfl) hI⟩
  · have e : opRestore A k = (-2, A) := by rw [opRestore, if_pos q]
    rw [e] at h
    simp only [ia1, ia2, ia3, ia4, inn, inm, i10, i01, i0n, i1n, i0m, i1m, o_push, o_iload, o_aload, o_istore, o_iinc, o_iadd, o_isub, o_imul, o_iand, o_ior, o_ixor, o_ishl, o_ishr, o_iushr, o_idiv, o_irem, o_ineg, o_dup, o_dup2, o_pop, o_if_eq, o_if_ne, o_if_lt, o_if_ge, o_if_gt, o_if_le, o_icmp_eq, o_icmp_ne, o_icmp_lt, o_icmp_ge, o_icmp_gt, o_icmp_le, o_nonnull, o_lsw2, o_iret, o_zret, o_vret, o_cV0, o_cV1, o_cV2, o_cV3, o_cV4, o_cV5, o_cV6, o_cS1, o_cS2, o_cS3, o_cS4, lg, lset, inB, pushv, c1, okr, at_, List.replicate, true_and, and_true, true_or, or_true, eq_self, forall_const, not_true_eq_false, not_false_eq_true, forall_eq, false_implies, true_implies,  List.length_nil, List.length_cons, Nat.zero_le, Nat.reduceAdd, Nat.reduceLeDiff]
    exact h σ (fun _ _ => rfl) hI
theorem kp_sum : ∀ k, k < 4 → (if k.testBit 0 = true then nI 1 else nI 0) + (if k.testBit 1 = true then nI 2 else nI 0) = nI k := by decide +kernel
theorem r_Xcount {w : Int32} (hA : AOk A) (hI : InvM σ A) (h : Q (some (.int (opCount A w))) σ) : E G MX5_count (d + 20) 0 [some (.ref 57), some (.int w)] [] σ Q := by
  obtain ⟨hR, hP, h3, h4, h5, h6⟩ := id hI
  have hV := hA.1
  have n12 : (12 : Int32) = nI 12 := by decide +kernel
  have n22 : (22 : Int32) = nI 22 := by decide +kernel
  apply kX5_count_0
  simp only [ia1, ia2, ia3, ia4, inn, inm, i10, i01, i0n, i1n, i0m, i1m, o_push, o_iload, o_aload, o_istore, o_iinc, o_iadd, o_isub, o_imul, o_iand, o_ior, o_ixor, o_ishl, o_ishr, o_iushr, o_idiv, o_irem, o_ineg, o_dup, o_dup2, o_pop, o_if_eq, o_if_ne, o_if_lt, o_if_ge, o_if_gt, o_if_le, o_icmp_eq, o_icmp_ne, o_icmp_lt, o_icmp_ge, o_icmp_gt, o_icmp_le, o_nonnull, o_lsw2, o_iret, o_zret, o_vret, o_cV0, o_cV1, o_cV2, o_cV3, o_cV4, o_cV5, o_cV6, o_cS1, o_cS2, o_cS3, o_cS4, lg, lset, inB, pushv, c1, okr, at_, List.replicate, true_and, and_true, true_or, or_true, eq_self, forall_const, not_true_eq_false, not_false_eq_true, forall_eq, false_implies, true_implies,  List.length_nil, List.length_cons, Nat.zero_le, Nat.reduceAdd, Nat.reduceLeDiff]
  refine r_in (fun q => ?_) (fun q => ?_)
  · obtain ⟨x, hx1, hx2, rfl⟩ := inN (a := 10) (b := 12) (by omega) (by omega) (by rw [← n10, ← n12]; exact q)
    have hne : ∀ c, c < 8 → ¬ nI x = nI c := fun c hc => by rw [nEq (by omega) (by omega)]; omega
    rw [opCount, if_neg (by rw [n0]; exact hne 0 (by omega)), if_neg (by rw [n1]; exact hne 1 (by omega)), if_neg (by rw [n2]; exact hne 2 (by omega)), if_neg (by rw [n3]; exact hne 3 (by omega)), if_neg (by rw [n4]; exact hne 4 (by omega)), if_neg (by rw [n5]; exact hne 5 (by omega)), if_neg (by rw [n6]; exact hne 6 (by omega)), if_neg (by rw [n7]; exact hne 7 (by omega)), if_pos q, fI_n (by omega)] at h
    simp (disch := omega) only [ia1, ia2, ia3, ia4, inn, inm, i10, i01, i0n, i1n, i0m, i1m, o_push, o_iload, o_aload, o_istore, o_iinc, o_iadd, o_isub, o_imul, o_iand, o_ior, o_ixor, o_ishl, o_ishr, o_iushr, o_idiv, o_irem, o_ineg, o_dup, o_dup2, o_pop, o_if_eq, o_if_ne, o_if_lt, o_if_ge, o_if_gt, o_if_le, o_icmp_eq, o_icmp_ne, o_icmp_lt, o_icmp_ge, o_icmp_gt, o_icmp_le, o_nonnull, o_lsw2, o_iret, o_zret, o_vret, o_cV0, o_cV1, o_cV2, o_cV3, o_cV4, o_cV5, o_cV6, o_cS1, o_cS2, o_cS3, o_cS4, lg, lset, inB, pushv, c1, okr, at_, List.replicate, true_and, and_true, true_or, or_true, eq_self, forall_const, not_true_eq_false, not_false_eq_true, forall_eq, false_implies, true_implies,  List.length_nil, List.length_cons, Nat.zero_le, Nat.reduceAdd, Nat.reduceLeDiff, gM0, n0, nI_add, Nat.zero_add, n10, nSub, ldI sh58, hR (x - 10) (show x - 10 < 31 by omega)]
    exact h
  · simp only [ia1, ia2, ia3, ia4, inn, inm, i10, i01, i0n, i1n, i0m, i1m, o_push, o_iload, o_aload, o_istore, o_iinc, o_iadd, o_isub, o_imul, o_iand, o_ior, o_ixor, o_ishl, o_ishr, o_iushr, o_idiv, o_irem, o_ineg, o_dup, o_dup2, o_pop, o_if_eq, o_if_ne, o_if_lt, o_if_ge, o_if_gt, o_if_le, o_icmp_eq, o_icmp_ne, o_icmp_lt, o_icmp_ge, o_icmp_gt, o_icmp_le, o_nonnull, o_lsw2, o_iret, o_zret, o_vret, o_cV0, o_cV1, o_cV2, o_cV3, o_cV4, o_cV5, o_cV6, o_cS1, o_cS2, o_cS3, o_cS4, lg, lset, inB, pushv, c1, okr, at_, List.replicate, true_and, and_true, true_or, or_true, eq_self, forall_const, not_true_eq_false, not_false_eq_true, forall_eq, false_implies, true_implies,  List.length_nil, List.length_cons, Nat.zero_le, Nat.reduceAdd, Nat.reduceLeDiff]
    refine r_in (fun q2 => ?_) (fun q2 => ?_)
    · obtain ⟨x, hx1, hx2, rfl⟩ := inN (a := 20) (b := 22) (by omega) (by omega) (by rw [← n20, ← n22]; exact q2)
      have hne : ∀ c, c < 8 → ¬ nI x = nI c := fun c hc => by rw [nEq (by omega) (by omega)]; omega
      rw [opCount, if_neg (by rw [n0]; exact hne 0 (by omega)), if_neg (by rw [n1]; exact hne 1 (by omega)), if_neg (by rw [n2]; exact hne 2 (by omega)), if_neg (by rw [n3]; exact hne 3 (by omega)), if_neg (by rw [n4]; exact hne 4 (by omega)), if_neg (by rw [n5]; exact hne 5 (by omega)), if_neg (by rw [n6]; exact hne 6 (by omega)), if_neg (by rw [n7]; exact hne 7 (by omega)), if_neg q, if_pos q2, fI_n (by omega), show 3 + (x - 20) = 3 + x - 20 by omega] at h
      simp (disch := omega) only [ia1, ia2, ia3, ia4, inn, inm, i10, i01, i0n, i1n, i0m, i1m, o_push, o_iload, o_aload, o_istore, o_iinc, o_iadd, o_isub, o_imul, o_iand, o_ior, o_ixor, o_ishl, o_ishr, o_iushr, o_idiv, o_irem, o_ineg, o_dup, o_dup2, o_pop, o_if_eq, o_if_ne, o_if_lt, o_if_ge, o_if_gt, o_if_le, o_icmp_eq, o_icmp_ne, o_icmp_lt, o_icmp_ge, o_icmp_gt, o_icmp_le, o_nonnull, o_lsw2, o_iret, o_zret, o_vret, o_cV0, o_cV1, o_cV2, o_cV3, o_cV4, o_cV5, o_cV6, o_cS1, o_cS2, o_cS3, o_cS4, lg, lset, inB, pushv, c1, okr, at_, List.replicate, true_and, and_true, true_or, or_true, eq_self, forall_const, not_true_eq_false, not_false_eq_true, forall_eq, false_implies, true_implies,  List.length_nil, List.length_cons, Nat.zero_le, Nat.reduceAdd, Nat.reduceLeDiff, gM0, n3, nI_add, n20, nSub, ldI sh58, hR (3 + x - 20) (show 3 + x - 20 < 31 by omega)]
      exact h
    · simp only [ia1, ia2, ia3, ia4, inn, inm, i10, i01, i0n, i1n, i0m, i1m, o_push, o_iload, o_aload, o_istore, o_iinc, o_iadd, o_isub, o_imul, o_iand, o_ior, o_ixor, o_ishl, o_ishr, o_iushr, o_idiv, o_irem, o_ineg, o_dup, o_dup2, o_pop, o_if_eq, o_if_ne, o_if_lt, o_if_ge, o_if_gt, o_if_le, o_icmp_eq, o_icmp_ne, o_icmp_lt, o_icmp_ge, o_icmp_gt, o_icmp_le, o_nonnull, o_lsw2, o_iret, o_zret, o_vret, o_cV0, o_cV1, o_cV2, o_cV3, o_cV4, o_cV5, o_cV6, o_cS1, o_cS2, o_cS3, o_cS4, lg, lset, inB, pushv, c1, okr, at_, List.replicate, true_and, and_true, true_or, or_true, eq_self, forall_const, not_true_eq_false, not_false_eq_true, forall_eq, false_implies, true_implies,  List.length_nil, List.length_cons, Nat.zero_le, Nat.reduceAdd, Nat.reduceLeDiff]
      refine tsw_of (Nat.le_of_ble_eq_true rfl) (fun hne => ?_) (fun i hi e => ?_)
      · have a0 := hne 0 (Nat.le_of_ble_eq_true rfl)
        have a1 := hne 1 (Nat.le_of_ble_eq_true rfl)
        have a2 := hne 2 (Nat.le_of_ble_eq_true rfl)
        have a3 := hne 3 (Nat.le_of_ble_eq_true rfl)
        have a4 := hne 4 (Nat.le_of_ble_eq_true rfl)
        have a5 := hne 5 (Nat.le_of_ble_eq_true rfl)
        have a6 := hne 6 (Nat.le_of_ble_eq_true rfl)
        have a7 := hne 7 (Nat.le_of_ble_eq_true rfl)
        rw [← n0] at a0
        rw [← n1] at a1
        rw [← n2] at a2
        rw [← n3] at a3
        rw [← n4] at a4
        rw [← n5] at a5
        rw [← n6] at a6
        rw [← n7] at a7
        rw [opCount, if_neg a0, if_neg a1, if_neg a2, if_neg a3, if_neg a4, if_neg a5, if_neg a6, if_neg a7, if_neg q, if_neg q2] at h
        simp only [ia1, ia2, ia3, ia4, inn, inm, i10, i01, i0n, i1n, i0m, i1m, o_push, o_iload, o_aload, o_istore, o_iinc, o_iadd, o_isub, o_imul, o_iand, o_ior, o_ixor, o_ishl, o_ishr, o_iushr, o_idiv, o_irem, o_ineg, o_dup, o_dup2, o_pop, o_if_eq, o_if_ne, o_if_lt, o_if_ge, o_if_gt, o_if_le, o_icmp_eq, o_icmp_ne, o_icmp_lt, o_icmp_ge, o_icmp_gt, o_icmp_le, o_nonnull, o_lsw2, o_iret, o_zret, o_vret, o_cV0, o_cV1, o_cV2, o_cV3, o_cV4, o_cV5, o_cV6, o_cS1, o_cS2, o_cS3, o_cS4, lg, lset, inB, pushv, c1, okr, at_, List.replicate, true_and, and_true, true_or, or_true, eq_self, forall_const, not_true_eq_false, not_false_eq_true, forall_eq, false_implies, true_implies,  List.length_nil, List.length_cons, Nat.zero_le, Nat.reduceAdd, Nat.reduceLeDiff]
        exact h
      · subst e
        obtain rfl | rfl | rfl | rfl | rfl | rfl | rfl | rfl : i = 0 ∨ i = 1 ∨ i = 2 ∨ i = 3 ∨ i = 4 ∨ i = 5 ∨ i = 6 ∨ i = 7 := by simp only [List.length_cons, List.length_nil] at hi; omega
        · rw [opCount, if_pos n0.symm] at h
          simp only [ia1, ia2, ia3, ia4, inn, inm, i10, i01, i0n, i1n, i0m, i1m, o_push, o_iload, o_aload, o_istore, o_iinc, o_iadd, o_isub, o_imul, o_iand, o_ior, o_ixor, o_ishl, o_ishr, o_iushr, o_idiv, o_irem, o_ineg, o_dup, o_dup2, o_pop, o_if_eq, o_if_ne, o_if_lt, o_if_ge, o_if_gt, o_if_le, o_icmp_eq, o_icmp_ne, o_icmp_lt, o_icmp_ge, o_icmp_gt, o_icmp_le, o_nonnull, o_lsw2, o_iret, o_zret, o_vret, o_cV0, o_cV1, o_cV2, o_cV3, o_cV4, o_cV5, o_cV6, o_cS1, o_cS2, o_cS3, o_cS4, lg, lset, inB, pushv, c1, okr, at_, List.replicate, true_and, and_true, true_or, or_true, eq_self, forall_const, not_true_eq_false, not_false_eq_true, forall_eq, false_implies, true_implies,  List.length_nil, List.length_cons, Nat.zero_le, Nat.reduceAdd, Nat.reduceLeDiff, tsw, sh57k]
          refine r_many hR ?_
          simp only [ia1, ia2, ia3, ia4, inn, inm, i10, i01, i0n, i1n, i0m, i1m, o_push, o_iload, o_aload, o_istore, o_iinc, o_iadd, o_isub, o_imul, o_iand, o_ior, o_ixor, o_ishl, o_ishr, o_iushr, o_idiv, o_irem, o_ineg, o_dup, o_dup2, o_pop, o_if_eq, o_if_ne, o_if_lt, o_if_ge, o_if_gt, o_if_le, o_icmp_eq, o_icmp_ne, o_icmp_lt, o_icmp_ge, o_icmp_gt, o_icmp_le, o_nonnull, o_lsw2, o_iret, o_zret, o_vret, o_cV0, o_cV1, o_cV2, o_cV3, o_cV4, o_cV5, o_cV6, o_cS1, o_cS2, o_cS3, o_cS4, lg, lset, inB, pushv, c1, okr, at_, List.replicate, true_and, and_true, true_or, or_true, eq_self, forall_const, not_true_eq_false, not_false_eq_true, forall_eq, false_implies, true_implies,  List.length_nil, List.length_cons, Nat.zero_le, Nat.reduceAdd, Nat.reduceLeDiff]; exact h
        · rw [opCount, if_neg (by decide +kernel), if_pos n1.symm] at h
          simp only [ia1, ia2, ia3, ia4, inn, inm, i10, i01, i0n, i1n, i0m, i1m, o_push, o_iload, o_aload, o_istore, o_iinc, o_iadd, o_isub, o_imul, o_iand, o_ior, o_ixor, o_ishl, o_ishr, o_iushr, o_idiv, o_irem, o_ineg, o_dup, o_dup2, o_pop, o_if_eq, o_if_ne, o_if_lt, o_if_ge, o_if_gt, o_if_le, o_icmp_eq, o_icmp_ne, o_icmp_lt, o_icmp_ge, o_icmp_gt, o_icmp_le, o_nonnull, o_lsw2, o_iret, o_zret, o_vret, o_cV0, o_cV1, o_cV2, o_cV3, o_cV4, o_cV5, o_cV6, o_cS1, o_cS2, o_cS3, o_cS4, lg, lset, inB, pushv, c1, okr, at_, List.replicate, true_and, and_true, true_or, or_true, eq_self, forall_const, not_true_eq_false, not_false_eq_true, forall_eq, false_implies, true_implies,  List.length_nil, List.length_cons, Nat.zero_le, Nat.reduceAdd, Nat.reduceLeDiff, tsw, sh57k]
          refine r_full hV hR ?_
          simp only [ia1, ia2, ia3, ia4, inn, inm, i10, i01, i0n, i1n, i0m, i1m, o_push, o_iload, o_aload, o_istore, o_iinc, o_iadd, o_isub, o_imul, o_iand, o_ior, o_ixor, o_ishl, o_ishr, o_iushr, o_idiv, o_irem, o_ineg, o_dup, o_dup2, o_pop, o_if_eq, o_if_ne, o_if_lt, o_if_ge, o_if_gt, o_if_le, o_icmp_eq, o_icmp_ne, o_icmp_lt, o_icmp_ge, o_icmp_gt, o_icmp_le, o_nonnull, o_lsw2, o_iret, o_zret, o_vret, o_cV0, o_cV1, o_cV2, o_cV3, o_cV4, o_cV5, o_cV6, o_cS1, o_cS2, o_cS3, o_cS4, lg, lset, inB, pushv, c1, okr, at_, List.replicate, true_and, and_true, true_or, or_true, eq_self, forall_const, not_true_eq_false, not_false_eq_true, forall_eq, false_implies, true_implies,  List.length_nil, List.length_cons, Nat.zero_le, Nat.reduceAdd, Nat.reduceLeDiff, sh57k]
          refine r_volumeOf (d := d + 18) (by have := full_lt hV; omega) hV hR ?_
          simp only [ia1, ia2, ia3, ia4, inn, inm, i10, i01, i0n, i1n, i0m, i1m, o_push, o_iload, o_aload, o_istore, o_iinc, o_iadd, o_isub, o_imul, o_iand, o_ior, o_ixor, o_ishl, o_ishr, o_iushr, o_idiv, o_irem, o_ineg, o_dup, o_dup2, o_pop, o_if_eq, o_if_ne, o_if_lt, o_if_ge, o_if_gt, o_if_le, o_icmp_eq, o_icmp_ne, o_icmp_lt, o_icmp_ge, o_icmp_gt, o_icmp_le, o_nonnull, o_lsw2, o_iret, o_zret, o_vret, o_cV0, o_cV1, o_cV2, o_cV3, o_cV4, o_cV5, o_cV6, o_cS1, o_cS2, o_cS3, o_cS4, lg, lset, inB, pushv, c1, okr, at_, List.replicate, true_and, and_true, true_or, or_true, eq_self, forall_const, not_true_eq_false, not_false_eq_true, forall_eq, false_implies, true_implies,  List.length_nil, List.length_cons, Nat.zero_le, Nat.reduceAdd, Nat.reduceLeDiff]; exact h
        · rw [opCount, if_neg (by decide +kernel), if_neg (by decide +kernel), if_pos n2.symm] at h
          simp (disch := omega) only [ia1, ia2, ia3, ia4, inn, inm, i10, i01, i0n, i1n, i0m, i1m, o_push, o_iload, o_aload, o_istore, o_iinc, o_iadd, o_isub, o_imul, o_iand, o_ior, o_ixor, o_ishl, o_ishr, o_iushr, o_idiv, o_irem, o_ineg, o_dup, o_dup2, o_pop, o_if_eq, o_if_ne, o_if_lt, o_if_ge, o_if_gt, o_if_le, o_icmp_eq, o_icmp_ne, o_icmp_lt, o_icmp_ge, o_icmp_gt, o_icmp_le, o_nonnull, o_lsw2, o_iret, o_zret, o_vret, o_cV0, o_cV1, o_cV2, o_cV3, o_cV4, o_cV5, o_cV6, o_cS1, o_cS2, o_cS3, o_cS4, lg, lset, inB, pushv, c1, okr, at_, List.replicate, true_and, and_true, true_or, or_true, eq_self, forall_const, not_true_eq_false, not_false_eq_true, forall_eq, false_implies, true_implies,  List.length_nil, List.length_cons, Nat.zero_le, Nat.reduceAdd, Nat.reduceLeDiff, tsw, gM0, n6, nI_add, n2, nSub, ldI sh58, Nat.reduceAdd, Nat.reduceSub, hR 6 (by omega)]; exact h
        · rw [opCount, if_neg (by decide +kernel), if_neg (by decide +kernel), if_neg (by decide +kernel), if_pos n3.symm] at h
          simp (disch := omega) only [ia1, ia2, ia3, ia4, inn, inm, i10, i01, i0n, i1n, i0m, i1m, o_push, o_iload, o_aload, o_istore, o_iinc, o_iadd, o_isub, o_imul, o_iand, o_ior, o_ixor, o_ishl, o_ishr, o_iushr, o_idiv, o_irem, o_ineg, o_dup, o_dup2, o_pop, o_if_eq, o_if_ne, o_if_lt, o_if_ge, o_if_gt, o_if_le, o_icmp_eq, o_icmp_ne, o_icmp_lt, o_icmp_ge, o_icmp_gt, o_icmp_le, o_nonnull, o_lsw2, o_iret, o_zret, o_vret, o_cV0, o_cV1, o_cV2, o_cV3, o_cV4, o_cV5, o_cV6, o_cS1, o_cS2, o_cS3, o_cS4, lg, lset, inB, pushv, c1, okr, at_, List.replicate, true_and, and_true, true_or, or_true, eq_self, forall_const, not_true_eq_false, not_false_eq_true, forall_eq, false_implies, true_implies,  List.length_nil, List.length_cons, Nat.zero_le, Nat.reduceAdd, Nat.reduceLeDiff, tsw, gM0, n6, nI_add, n2, nSub, ldI sh58, Nat.reduceAdd, Nat.reduceSub, hR 7 (by omega)]; exact h
        · rw [opCount, if_neg (by decide +kernel), if_neg (by decide +kernel), if_neg (by decide +kernel), if_neg (by decide +kernel), if_pos n4.symm] at h
          simp (disch := omega) only [ia1, ia2, ia3, ia4, inn, inm, i10, i01, i0n, i1n, i0m, i1m, o_push, o_iload, o_aload, o_istore, o_iinc, o_iadd, o_isub, o_imul, o_iand, o_ior, o_ixor, o_ishl, o_ishr, o_iushr, o_idiv, o_irem, o_ineg, o_dup, o_dup2, o_pop, o_if_eq, o_if_ne, o_if_lt, o_if_ge, o_if_gt, o_if_le, o_icmp_eq, o_icmp_ne, o_icmp_lt, o_icmp_ge, o_icmp_gt, o_icmp_le, o_nonnull, o_lsw2, o_iret, o_zret, o_vret, o_cV0, o_cV1, o_cV2, o_cV3, o_cV4, o_cV5, o_cV6, o_cS1, o_cS2, o_cS3, o_cS4, lg, lset, inB, pushv, c1, okr, at_, List.replicate, true_and, and_true, true_or, or_true, eq_self, forall_const, not_true_eq_false, not_false_eq_true, forall_eq, false_implies, true_implies,  List.length_nil, List.length_cons, Nat.zero_le, Nat.reduceAdd, Nat.reduceLeDiff, tsw, gM0, n6, nI_add, n2, nSub, ldI sh58, Nat.reduceAdd, Nat.reduceSub, hR 8 (by omega)]; exact h
        · rw [opCount, if_neg (by decide +kernel), if_neg (by decide +kernel), if_neg (by decide +kernel), if_neg (by decide +kernel), if_neg (by decide +kernel), if_pos n5.symm] at h
          simp only [ia1, ia2, ia3, ia4, inn, inm, i10, i01, i0n, i1n, i0m, i1m, o_push, o_iload, o_aload, o_istore, o_iinc, o_iadd, o_isub, o_imul, o_iand, o_ior, o_ixor, o_ishl, o_ishr, o_iushr, o_idiv, o_irem, o_ineg, o_dup, o_dup2, o_pop, o_if_eq, o_if_ne, o_if_lt, o_if_ge, o_if_gt, o_if_le, o_icmp_eq, o_icmp_ne, o_icmp_lt, o_icmp_ge, o_icmp_gt, o_icmp_le, o_nonnull, o_lsw2, o_iret, o_zret, o_vret, o_cV0, o_cV1, o_cV2, o_cV3, o_cV4, o_cV5, o_cV6, o_cS1, o_cS2, o_cS3, o_cS4, lg, lset, inB, pushv, c1, okr, at_, List.replicate, true_and, and_true, true_or, or_true, eq_self, forall_const, not_true_eq_false, not_false_eq_true, forall_eq, false_implies, true_implies,  List.length_nil, List.length_cons, Nat.zero_le, Nat.reduceAdd, Nat.reduceLeDiff, tsw, gM4, hP.1]; exact h
        · rw [opCount, if_neg (by decide +kernel), if_neg (by decide +kernel), if_neg (by decide +kernel), if_neg (by decide +kernel), if_neg (by decide +kernel), if_neg (by decide +kernel), if_pos n6.symm] at h
          simp only [ia1, ia2, ia3, ia4, inn, inm, i10, i01, i0n, i1n, i0m, i1m, o_push, o_iload, o_aload, o_istore, o_iinc, o_iadd, o_isub, o_imul, o_iand, o_ior, o_ixor, o_ishl, o_ishr, o_iushr, o_idiv, o_irem, o_ineg, o_dup, o_dup2, o_pop, o_if_eq, o_if_ne, o_if_lt, o_if_ge, o_if_gt, o_if_le, o_icmp_eq, o_icmp_ne, o_icmp_lt, o_icmp_ge, o_icmp_gt, o_icmp_le, o_nonnull, o_lsw2, o_iret, o_zret, o_vret, o_cV0, o_cV1, o_cV2, o_cV3, o_cV4, o_cV5, o_cV6, o_cS1, o_cS2, o_cS3, o_cS4, lg, lset, inB, pushv, c1, okr, at_, List.replicate, true_and, and_true, true_or, or_true, eq_self, forall_const, not_true_eq_false, not_false_eq_true, forall_eq, false_implies, true_implies,  List.length_nil, List.length_cons, Nat.zero_le, Nat.reduceAdd, Nat.reduceLeDiff, tsw, sh57k]
          refine r_familiesUsed (d := d + 18) hV hR ?_
          simp only [ia1, ia2, ia3, ia4, inn, inm, i10, i01, i0n, i1n, i0m, i1m, o_push, o_iload, o_aload, o_istore, o_iinc, o_iadd, o_isub, o_imul, o_iand, o_ior, o_ixor, o_ishl, o_ishr, o_iushr, o_idiv, o_irem, o_ineg, o_dup, o_dup2, o_pop, o_if_eq, o_if_ne, o_if_lt, o_if_ge, o_if_gt, o_if_le, o_icmp_eq, o_icmp_ne, o_icmp_lt, o_icmp_ge, o_icmp_gt, o_icmp_le, o_nonnull, o_lsw2, o_iret, o_zret, o_vret, o_cV0, o_cV1, o_cV2, o_cV3, o_cV4, o_cV5, o_cV6, o_cS1, o_cS2, o_cS3, o_cS4, lg, lset, inB, pushv, c1, okr, at_, List.replicate, true_and, and_true, true_or, or_true, eq_self, forall_const, not_true_eq_false, not_false_eq_true, forall_eq, false_implies, true_implies,  List.length_nil, List.length_cons, Nat.zero_le, Nat.reduceAdd, Nat.reduceLeDiff]; exact h
        · rw [opCount, if_neg (by decide +kernel), if_neg (by decide +kernel), if_neg (by decide +kernel), if_neg (by decide +kernel), if_neg (by decide +kernel), if_neg (by decide +kernel), if_neg (by decide +kernel), if_pos n7.symm, ← kp_sum _ hA.2.2] at h
          have g0 : ∀ {K : Kt} {ls : Lc} {r : List Value}, o_baload K ls (.int (0 : Int32) :: .ref 60 :: r) σ = K ls (.int (σ 60 0) :: r) σ := by
            intro K ls r; rw [n0]; exact ldZ sh60 (by omega) (by omega)
          have g1 : ∀ {K : Kt} {ls : Lc} {r : List Value}, o_baload K ls (.int (1 : Int32) :: .ref 60 :: r) σ = K ls (.int (σ 60 1) :: r) σ := by
            intro K ls r; rw [n1]; exact ldZ sh60 (by omega) (by omega)
          simp only [ia1, ia2, ia3, ia4, inn, inm, i10, i01, i0n, i1n, i0m, i1m, o_push, o_iload, o_aload, o_istore, o_iinc, o_iadd, o_isub, o_imul, o_iand, o_ior, o_ixor, o_ishl, o_ishr, o_iushr, o_idiv, o_irem, o_ineg, o_dup, o_dup2, o_pop, o_if_eq, o_if_ne, o_if_lt, o_if_ge, o_if_gt, o_if_le, o_icmp_eq, o_icmp_ne, o_icmp_lt, o_icmp_ge, o_icmp_gt, o_icmp_le, o_nonnull, o_lsw2, o_iret, o_zret, o_vret, o_cV0, o_cV1, o_cV2, o_cV3, o_cV4, o_cV5, o_cV6, o_cS1, o_cS2, o_cS3, o_cS4, lg, lset, inB, pushv, c1, okr, at_, List.replicate, true_and, and_true, true_or, or_true, eq_self, forall_const, not_true_eq_false, not_false_eq_true, forall_eq, false_implies, true_implies,  List.length_nil, List.length_cons, Nat.zero_le, Nat.reduceAdd, Nat.reduceLeDiff, tsw, gM2, g0, g1, h5, h6]
          by_cases b0 : A.2.2.2.1.testBit 0 = true <;> by_cases b1 : A.2.2.2.1.testBit 1 = true
          all_goals
            simp only [b0, b1, if_true, if_false] at h ⊢
            simp only [n0, n1, n2] at h ⊢
            first
              | exact ⟨fun z => absurd z (by decide +kernel), fun _ => ⟨fun z => absurd z (by decide +kernel), fun _ => h⟩⟩
              | exact ⟨fun z => absurd z (by decide +kernel), fun _ => ⟨fun _ => h, fun z => absurd rfl z⟩⟩
              | exact ⟨fun _ => ⟨fun z => absurd z (by decide +kernel), fun _ => h⟩, fun z => absurd rfl z⟩
              | exact ⟨fun _ => ⟨fun _ => h, fun z => absurd rfl z⟩, fun z => absurd rfl z⟩
end PUBN
