/-! the reference: its 31 words are V -/
def RAt (σ : Mem) (V : Nat → Nat) : Prop := ∀ k, k < 31 → σ 58 k = nI (V k)
theorem sh58 : sh 58 = shI 31 := rfl
theorem sh59 : sh 59 = shI 62 := rfl
theorem sh60 : sh 60 = shZ 2 := rfl
theorem sh61 : sh 61 = shI 14 := rfl
theorem sh62 : sh 62 = shI 15 := rfl
theorem sh63 : sh 63 = shI 15 := rfl
theorem sh64 : sh 64 = shI 128 := rfl
theorem sh65 : sh 65 = shZ 168960 := rfl
theorem sh66 : sh 66 = shI 168960 := rfl
abbrev unI (V : Nat → Nat) (S : Nat) : Prop := famS V S < 3 ∧ ∀ j, j < V 9 → S.testBit j = true → V (10 + j) = famS V S
def fmI (V : Nat → Nat) (S : Nat) : Int32 := if unI V S then nI (famS V S) else -6
def bth (m : Nat) (V : Nat → Nat) (S e : Nat) : Nat := if m = 0 then lateR 0 V S e (V 9) else if m = 1 then lateR 1 V S e (V 9) else if m = 2 then 0 else 1
def plc (s l t : Nat) : Nat := (s * 4 + l) * 330 + t
theorem n330 : (330 : Int32) = nI 330 := by decide +kernel
theorem n6neg : (-6 : Int32) < 0 := by decide
theorem over_le {a b c : Nat} (ha : a < 1000) (hb : b < 1000) (hc : c < 2 ^ 30) : (nI a - nI b ≤ nI c) = (a - b ≤ c) := by
  rw [Int32.le_iff_toInt_le, pk_sub_toInt (by omega) (by omega), nI_toInt (by omega)]
  apply propext
  omega
section LEAFM
variable {G : Gp} {d : Nat} {Q : Option Value → Mem → Prop} {σ : Mem} {V : Nat → Nat}
theorem r_in {x l m : Int32} (ht : l ≤ x ∧ x ≤ m → Q (some (.int 1)) σ) (hf : ¬ (l ≤ x ∧ x ≤ m) → Q (some (.int 0)) σ) : E G MX5_in d 0 [some (.int x), some (.int l), some (.int m)] [] σ Q := by
  apply kX5_in_0
  simp only [ia1, ia2, ia3, ia4, inn, inm, i10, i01, i0n, i1n, i0m, i1m, o_push, o_iload, o_aload, o_istore, o_iinc, o_iadd, o_isub, o_imul, o_iand, o_ior, o_ixor, o_ishl, o_ishr, o_iushr, o_idiv, o_irem, o_ineg, o_dup, o_dup2, o_pop, o_if_eq, o_if_ne, o_if_lt, o_if_ge, o_if_gt, o_if_le, o_icmp_eq, o_icmp_ne, o_icmp_lt, o_icmp_ge, o_icmp_gt, o_icmp_le, o_nonnull, o_lsw2, o_iret, o_zret, o_vret, o_cV0, o_cV1, o_cV2, o_cV3, o_cV4, o_cV5, o_cV6, o_cS1, o_cS2, o_cS3, o_cS4, lg, lset, inB, pushv, c1, okr, at_, List.replicate, true_and, and_true, true_or, or_true, eq_self, forall_const, not_true_eq_false, not_false_eq_true, forall_eq, false_implies, true_implies,  List.length_nil, List.length_cons, Nat.zero_le, Nat.reduceAdd, Nat.reduceLeDiff]
  exact ⟨fun h1 => hf (fun q => absurd h1 (Int32.not_lt.mpr q.1)), fun h1 => ⟨fun h2 => hf (fun q => absurd h2 (Int32.not_lt.mpr q.2)), fun h2 => ht ⟨Int32.not_lt.mp h1, Int32.not_lt.mp h2⟩⟩⟩
theorem r_isFamily {x : Int32} (ht : 0 ≤ x ∧ x ≤ 2 → Q (some (.int 1)) σ) (hf : ¬ (0 ≤ x ∧ x ≤ 2) → Q (some (.int 0)) σ) : E G MX5_isFamily (d + 1) 0 [some (.int x)] [] σ Q := by
  apply kX5_isFamily_0
  simp only [ia1, ia2, ia3, ia4, inn, inm, i10, i01, i0n, i1n, i0m, i1m, o_push, o_iload, o_aload, o_istore, o_iinc, o_iadd, o_isub, o_imul, o_iand, o_ior, o_ixor, o_ishl, o_ishr, o_iushr, o_idiv, o_irem, o_ineg, o_dup, o_dup2, o_pop, o_if_eq, o_if_ne, o_if_lt, o_if_ge, o_if_gt, o_if_le, o_icmp_eq, o_icmp_ne, o_icmp_lt, o_icmp_ge, o_icmp_gt, o_icmp_le, o_nonnull, o_lsw2, o_iret, o_zret, o_vret, o_cV0, o_cV1, o_cV2, o_cV3, o_cV4, o_cV5, o_cV6, o_cS1, o_cS2, o_cS3, o_cS4, lg, lset, inB, pushv, c1, okr, at_, List.replicate, true_and, and_true, true_or, or_true, eq_self, forall_const, not_true_eq_false, not_false_eq_true, forall_eq, false_implies, true_implies,  List.length_nil, List.length_cons, Nat.zero_le, Nat.reduceAdd, Nat.reduceLeDiff]
  exact r_in (fun q => ⟨Or.inr rfl, ht q⟩) (fun q => ⟨Or.inl rfl, hf q⟩)
theorem r_isMeasure {x : Int32} (ht : 0 ≤ x ∧ x ≤ 3 → Q (some (.int 1)) σ) (hf : ¬ (0 ≤ x ∧ x ≤ 3) → Q (some (.int 0)) σ) : E G MX5_isMeasure (d + 1) 0 [some (.int x)] [] σ Q := by
  apply kX5_isMeasure_0
  simp only [ia1, ia2, ia3, ia4, inn, inm, i10, i01, i0n, i1n, i0m, i1m, o_push, o_iload, o_aload, o_istore, o_iinc, o_iadd, o_isub, o_imul, o_iand, o_ior, o_ixor, o_ishl, o_ishr, o_iushr, o_idiv, o_irem, o_ineg, o_dup, o_dup2, o_pop, o_if_eq, o_if_ne, o_if_lt, o_if_ge, o_if_gt, o_if_le, o_icmp_eq, o_icmp_ne, o_icmp_lt, o_icmp_ge, o_icmp_gt, o_icmp_le, o_nonnull, o_lsw2, o_iret, o_zret, o_vret, o_cV0, o_cV1, o_cV2, o_cV3, o_cV4, o_cV5, o_cV6, o_cS1, o_cS2, o_cS3, o_cS4, lg, lset, inB, pushv, c1, okr, at_, List.replicate, true_and, and_true, true_or, or_true, eq_self, forall_const, not_true_eq_false, not_false_eq_true, forall_eq, false_implies, true_implies,  List.length_nil, List.length_cons, Nat.zero_le, Nat.reduceAdd, Nat.reduceLeDiff]
  exact r_in (fun q => ⟨Or.inr rfl, ht q⟩) (fun q => ⟨Or.inl rfl, hf q⟩)
theorem r_many (hR : RAt σ V) (h : Q (some (.int (nI (V 9)))) σ) : E G MX5_many d 0 [some (.ref 57)] [] σ Q := by
  apply kX5_many_0
  simp (disch := omega) only [ia1, ia2, ia3, ia4, inn, inm, i10, i01, i0n, i1n, i0m, i1m, o_push, o_iload, o_aload, o_istore, o_iinc, o_iadd, o_isub, o_imul, o_iand, o_ior, o_ixor, o_ishl, o_ishr, o_iushr, o_idiv, o_irem, o_ineg, o_dup, o_dup2, o_pop, o_if_eq, o_if_ne, o_if_lt, o_if_ge, o_if_gt, o_if_le, o_icmp_eq, o_icmp_ne, o_icmp_lt, o_icmp_ge, o_icmp_gt, o_icmp_le, o_nonnull, o_lsw2, o_iret, o_zret, o_vret, o_cV0, o_cV1, o_cV2, o_cV3, o_cV4, o_cV5, o_cV6, o_cS1, o_cS2, o_cS3, o_cS4, lg, lset, inB, pushv, c1, okr, at_, List.replicate, true_and, and_true, true_or, or_true, eq_self, forall_const, not_true_eq_false, not_false_eq_true, forall_eq, false_implies, true_implies,  List.length_nil, List.length_cons, Nat.zero_le, Nat.reduceAdd, Nat.reduceLeDiff, gM0, n9, ldI sh58, hR 9 (by omega)]
  exact h
theorem r_isJob {x : Int32} (hR : RAt σ V) (ht : 0 ≤ x ∧ x ≤ nI (V 9) - 1 → Q (some (.int 1)) σ) (hf : ¬ (0 ≤ x ∧ x ≤ nI (V 9) - 1) → Q (some (.int 0)) σ) : E G MX5_isJob (d + 1) 0 [some (.ref 57), some (.int x)] [] σ Q := by
  apply kX5_isJob_0
  simp only [ia1, ia2, ia3, ia4, inn, inm, i10, i01, i0n, i1n, i0m, i1m, o_push, o_iload, o_aload, o_istore, o_iinc, o_iadd, o_isub, o_imul, o_iand, o_ior, o_ixor, o_ishl, o_ishr, o_iushr, o_idiv, o_irem, o_ineg, o_dup, o_dup2, o_pop, o_if_eq, o_if_ne, o_if_lt, o_if_ge, o_if_gt, o_if_le, o_icmp_eq, o_icmp_ne, o_icmp_lt, o_icmp_ge, o_icmp_gt, o_icmp_le, o_nonnull, o_lsw2, o_iret, o_zret, o_vret, o_cV0, o_cV1, o_cV2, o_cV3, o_cV4, o_cV5, o_cV6, o_cS1, o_cS2, o_cS3, o_cS4, lg, lset, inB, pushv, c1, okr, at_, List.replicate, true_and, and_true, true_or, or_true, eq_self, forall_const, not_true_eq_false, not_false_eq_true, forall_eq, false_implies, true_implies,  List.length_nil, List.length_cons, Nat.zero_le, Nat.reduceAdd, Nat.reduceLeDiff, sh57k]
  refine r_many hR ?_
  simp only [ia1, ia2, ia3, ia4, inn, inm, i10, i01, i0n, i1n, i0m, i1m, o_push, o_iload, o_aload, o_istore, o_iinc, o_iadd, o_isub, o_imul, o_iand, o_ior, o_ixor, o_ishl, o_ishr, o_iushr, o_idiv, o_irem, o_ineg, o_dup, o_dup2, o_pop, o_if_eq, o_if_ne, o_if_lt, o_if_ge, o_if_gt, o_if_le, o_icmp_eq, o_icmp_ne, o_icmp_lt, o_icmp_ge, o_icmp_gt, o_icmp_le, o_nonnull, o_lsw2, o_iret, o_zret, o_vret, o_cV0, o_cV1, o_cV2, o_cV3, o_cV4, o_cV5, o_cV6, o_cS1, o_cS2, o_cS3, o_cS4, lg, lset, inB, pushv, c1, okr, at_, List.replicate, true_and, and_true, true_or, or_true, eq_self, forall_const, not_true_eq_false, not_false_eq_true, forall_eq, false_implies, true_implies,  List.length_nil, List.length_cons, Nat.zero_le, Nat.reduceAdd, Nat.reduceLeDiff]
  exact r_in (fun q => ⟨Or.inr rfl, ht q⟩) (fun q => ⟨Or.inl rfl, hf q⟩)
theorem r_down {x v : Int32} (hv : ¬ v = 0) (h : Q (some (.int (dwn x v))) σ) : E G MX5_down d 0 [some (.int x), some (.int v), none] [] σ Q := by
  apply kX5_down_0
  simp only [ia1, ia2, ia3, ia4, inn, inm, i10, i01, i0n, i1n, i0m, i1m, o_push, o_iload, o_aload, o_istore, o_iinc, o_iadd, o_isub, o_imul, o_iand, o_ior, o_ixor, o_ishl, o_ishr, o_iushr, o_idiv, o_irem, o_ineg, o_dup, o_dup2, o_pop, o_if_eq, o_if_ne, o_if_lt, o_if_ge, o_if_gt, o_if_le, o_icmp_eq, o_icmp_ne, o_icmp_lt, o_icmp_ge, o_icmp_gt, o_icmp_le, o_nonnull, o_lsw2, o_iret, o_zret, o_vret, o_cV0, o_cV1, o_cV2, o_cV3, o_cV4, o_cV5, o_cV6, o_cS1, o_cS2, o_cS3, o_cS4, lg, lset, inB, pushv, c1, okr, at_, List.replicate, true_and, and_true, true_or, or_true, eq_self, forall_const, not_true_eq_false, not_false_eq_true, forall_eq, false_implies, true_implies,  List.length_nil, List.length_cons, Nat.zero_le, Nat.reduceAdd, Nat.reduceLeDiff]
  refine ⟨hv, fun q => ?_, fun q => ⟨fun q2 => ?_, fun q2 => ?_⟩⟩
  · rw [dwn, if_neg (fun z => absurd z.1 (Int32.not_lt.mpr q))] at h; exact h
  · rw [dwn, if_neg (fun z => z.2 q2)] at h; exact h
  · rw [dwn, if_pos ⟨Int32.not_le.mp q, q2⟩] at h; exact h
theorem r_tight {j : Nat} (hV : VOk V) (hj : j < V 9) (hR : RAt σ V) (h : Q (some (.int (tv V j))) σ) : E G MX5_tight (d + 1) 0 [some (.ref 57), some (.int (nI j))] [] σ Q := by
  have h7 := hV.2.2.2.2.1
  have h1 := hV.2.2.2.2.2.1 j (by omega)
  have hv := hV.2.2.2.2.2.2 j hj
  apply kX5_tight_0
  simp (disch := omega) only [ia1, ia2, ia3, ia4, inn, inm, i10, i01, i0n, i1n, i0m, i1m, o_push, o_iload, o_aload, o_istore, o_iinc, o_iadd, o_isub, o_imul, o_iand, o_ior, o_ixor, o_ishl, o_ishr, o_iushr, o_idiv, o_irem, o_ineg, o_dup, o_dup2, o_pop, o_if_eq, o_if_ne, o_if_lt, o_if_ge, o_if_gt, o_if_le, o_icmp_eq, o_icmp_ne, o_icmp_lt, o_icmp_ge, o_icmp_gt, o_icmp_le, o_nonnull, o_lsw2, o_iret, o_zret, o_vret, o_cV0, o_cV1, o_cV2, o_cV3, o_cV4, o_cV5, o_cV6, o_cS1, o_cS2, o_cS3, o_cS4, lg, lset, inB, pushv, c1, okr, at_, List.replicate, true_and, and_true, true_or, or_true, eq_self, forall_const, not_true_eq_false, not_false_eq_true, forall_eq, false_implies, true_implies,  List.length_nil, List.length_cons, Nat.zero_le, Nat.reduceAdd, Nat.reduceLeDiff, gM0, n24, n3, n10, n17, nI_add, ldI sh58, hR _ (show 24 + j < 31 by omega), hR _ (show 10 + j < 31 by omega), hR _ (show 17 + j < 31 by omega)]
  simp (disch := omega) only [ldI sh58, ia1, ia2, ia3, ia4, inn, inm, i10, i01, i0n, i1n, i0m, i1m, o_push, o_iload, o_aload, o_istore, o_iinc, o_iadd, o_isub, o_imul, o_iand, o_ior, o_ixor, o_ishl, o_ishr, o_iushr, o_idiv, o_irem, o_ineg, o_dup, o_dup2, o_pop, o_if_eq, o_if_ne, o_if_lt, o_if_ge, o_if_gt, o_if_le, o_icmp_eq, o_icmp_ne, o_icmp_lt, o_icmp_ge, o_icmp_gt, o_icmp_le, o_nonnull, o_lsw2, o_iret, o_zret, o_vret, o_cV0, o_cV1, o_cV2, o_cV3, o_cV4, o_cV5, o_cV6, o_cS1, o_cS2, o_cS3, o_cS4, lg, lset, inB, pushv, c1, okr, at_, List.replicate, true_and, and_true, true_or, or_true, eq_self, forall_const, not_true_eq_false, not_false_eq_true, forall_eq, false_implies, true_implies,  List.length_nil, List.length_cons, Nat.zero_le, Nat.reduceAdd, Nat.reduceLeDiff, hR _ (show 3 + V (10 + j) < 31 by omega), gM0, n17, nI_add, hR _ (show 17 + j < 31 by omega)]
  refine r_down (nI_ne0 (by omega) (by omega)) ?_
  simp only [ia1, ia2, ia3, ia4, inn, inm, i10, i01, i0n, i1n, i0m, i1m, o_push, o_iload, o_aload, o_istore, o_iinc, o_iadd, o_isub, o_imul, o_iand, o_ior, o_ixor, o_ishl, o_ishr, o_iushr, o_idiv, o_irem, o_ineg, o_dup, o_dup2, o_pop, o_if_eq, o_if_ne, o_if_lt, o_if_ge, o_if_gt, o_if_le, o_icmp_eq, o_icmp_ne, o_icmp_lt, o_icmp_ge, o_icmp_gt, o_icmp_le, o_nonnull, o_lsw2, o_iret, o_zret, o_vret, o_cV0, o_cV1, o_cV2, o_cV3, o_cV4, o_cV5, o_cV6, o_cS1, o_cS2, o_cS3, o_cS4, lg, lset, inB, pushv, c1, okr, at_, List.replicate, true_and, and_true, true_or, or_true, eq_self, forall_const, not_true_eq_false, not_false_eq_true, forall_eq, false_implies, true_implies,  List.length_nil, List.length_cons, Nat.zero_le, Nat.reduceAdd, Nat.reduceLeDiff]
  have e := tv_dwn hV (show j < 7 by omega) hv
  rw [ck, if_pos h1.1] at e
  rw [e]
  exact h
theorem r_has {S j : Nat} (hS : S < 2 ^ 31) (hj : j < 31) (ht : S.testBit j = true → Q (some (.int 1)) σ) (hf : S.testBit j = false → Q (some (.int 0)) σ) : E G MX5_has d 0 [some (.int (nI S)), some (.int (nI j))] [] σ Q := by
  apply kX5_has_0
  simp only [ia1, ia2, ia3, ia4, inn, inm, i10, i01, i0n, i1n, i0m, i1m, o_push, o_iload, o_aload, o_istore, o_iinc, o_iadd, o_isub, o_imul, o_iand, o_ior, o_ixor, o_ishl, o_ishr, o_iushr, o_idiv, o_irem, o_ineg, o_dup, o_dup2, o_pop, o_if_eq, o_if_ne, o_if_lt, o_if_ge, o_if_gt, o_if_le, o_icmp_eq, o_icmp_ne, o_icmp_lt, o_icmp_ge, o_icmp_gt, o_icmp_le, o_nonnull, o_lsw2, o_iret, o_zret, o_vret, o_cV0, o_cV1, o_cV2, o_cV3, o_cV4, o_cV5, o_cV6, o_cS1, o_cS2, o_cS3, o_cS4, lg, lset, inB, pushv, c1, okr, at_, List.replicate, true_and, and_true, true_or, or_true, eq_self, forall_const, not_true_eq_false, not_false_eq_true, forall_eq, false_implies, true_implies,  List.length_nil, List.length_cons, Nat.zero_le, Nat.reduceAdd, Nat.reduceLeDiff, has_bit1 hS hj]
  cases hb : S.testBit j
  · simp [hf hb]
  · simp [ht hb]
theorem r_volumeOf {S : Nat} (hS : S < 2 ^ 31) (hV : VOk V) (hR : RAt σ V) (h : Q (some (.int (nI (volS V S)))) σ) : E G MX5_volumeOf (d + 1) 0 [some (.ref 57), some (.int (nI S)), none, none] [] σ Q := by
  have hn := hV.2.2.2.2.1
  apply kX5_volumeOf_0
  simp only [ia1, ia2, ia3, ia4, inn, inm, i10, i01, i0n, i1n, i0m, i1m, o_push, o_iload, o_aload, o_istore, o_iinc, o_iadd, o_isub, o_imul, o_iand, o_ior, o_ixor, o_ishl, o_ishr, o_iushr, o_idiv, o_irem, o_ineg, o_dup, o_dup2, o_pop, o_if_eq, o_if_ne, o_if_lt, o_if_ge, o_if_gt, o_if_le, o_icmp_eq, o_icmp_ne, o_icmp_lt, o_icmp_ge, o_icmp_gt, o_icmp_le, o_nonnull, o_lsw2, o_iret, o_zret, o_vret, o_cV0, o_cV1, o_cV2, o_cV3, o_cV4, o_cV5, o_cV6, o_cS1, o_cS2, o_cS3, o_cS4, lg, lset, inB, pushv, c1, okr, at_, List.replicate, true_and, and_true, true_or, or_true, eq_self, forall_const, not_true_eq_false, not_false_eq_true, forall_eq, false_implies, true_implies,  List.length_nil, List.length_cons, Nat.zero_le, Nat.reduceAdd, Nat.reduceLeDiff, n0]
  suffices H : ∀ k j, k + j = V 9 → E G MX5_volumeOf (d + 1) 4 [some (.ref 57), some (.int (nI S)), some (.int (nI (sumS (fun j => V (17 + j)) S j))), some (.int (nI j))] [] σ Q from H (V 9) 0 (by omega)
  intro k
  induction k with
  | zero =>
    intro j hjn
    obtain rfl : j = V 9 := by omega
    apply kX5_volumeOf_4
    simp only [ia1, ia2, ia3, ia4, inn, inm, i10, i01, i0n, i1n, i0m, i1m, o_push, o_iload, o_aload, o_istore, o_iinc, o_iadd, o_isub, o_imul, o_iand, o_ior, o_ixor, o_ishl, o_ishr, o_iushr, o_idiv, o_irem, o_ineg, o_dup, o_dup2, o_pop, o_if_eq, o_if_ne, o_if_lt, o_if_ge, o_if_gt, o_if_le, o_icmp_eq, o_icmp_ne, o_icmp_lt, o_icmp_ge, o_icmp_gt, o_icmp_le, o_nonnull, o_lsw2, o_iret, o_zret, o_vret, o_cV0, o_cV1, o_cV2, o_cV3, o_cV4, o_cV5, o_cV6, o_cS1, o_cS2, o_cS3, o_cS4, lg, lset, inB, pushv, c1, okr, at_, List.replicate, true_and, and_true, true_or, or_true, eq_self, forall_const, not_true_eq_false, not_false_eq_true, forall_eq, false_implies, true_implies,  List.length_nil, List.length_cons, Nat.zero_le, Nat.reduceAdd, Nat.reduceLeDiff, sh57k]
    refine r_many hR ?_
    simp (disch := omega) only [ia1, ia2, ia3, ia4, inn, inm, i10, i01, i0n, i1n, i0m, i1m, o_push, o_iload, o_aload, o_istore, o_iinc, o_iadd, o_isub, o_imul, o_iand, o_ior, o_ixor, o_ishl, o_ishr, o_iushr, o_idiv, o_irem, o_ineg, o_dup, o_dup2, o_pop, o_if_eq, o_if_ne, o_if_lt, o_if_ge, o_if_gt, o_if_le, o_icmp_eq, o_icmp_ne, o_icmp_lt, o_icmp_ge, o_icmp_gt, o_icmp_le, o_nonnull, o_lsw2, o_iret, o_zret, o_vret, o_cV0, o_cV1, o_cV2, o_cV3, o_cV4, o_cV5, o_cV6, o_cS1, o_cS2, o_cS3, o_cS4, lg, lset, inB, pushv, c1, okr, at_, List.replicate, true_and, and_true, true_or, or_true, eq_self, forall_const, not_true_eq_false, not_false_eq_true, forall_eq, false_implies, true_implies,  List.length_nil, List.length_cons, Nat.zero_le, Nat.reduceAdd, Nat.reduceLeDiff, nLe, Nat.le_refl]
    exact h
  | succ k ih =>
    intro j hjn
    have nx := ih (j + 1) (by omega)
    apply kX5_volumeOf_4
    simp only [ia1, ia2, ia3, ia4, inn, inm, i10, i01, i0n, i1n, i0m, i1m, o_push, o_iload, o_aload, o_istore, o_iinc, o_iadd, o_isub, o_imul, o_iand, o_ior, o_ixor, o_ishl, o_ishr, o_iushr, o_idiv, o_irem, o_ineg, o_dup, o_dup2, o_pop, o_if_eq, o_if_ne, o_if_lt, o_if_ge, o_if_gt, o_if_le, o_icmp_eq, o_icmp_ne, o_icmp_lt, o_icmp_ge, o_icmp_gt, o_icmp_le, o_nonnull, o_lsw2, o_iret, o_zret, o_vret, o_cV0, o_cV1, o_cV2, o_cV3, o_cV4, o_cV5, o_cV6, o_cS1, o_cS2, o_cS3, o_cS4, lg, lset, inB, pushv, c1, okr, at_, List.replicate, true_and, and_true, true_or, or_true, eq_self, forall_const, not_true_eq_false, not_false_eq_true, forall_eq, false_implies, true_implies,  List.length_nil, List.length_cons, Nat.zero_le, Nat.reduceAdd, Nat.reduceLeDiff, sh57k]
    refine r_many hR ?_
    simp (disch := omega) only [ia1, ia2, ia3, ia4, inn, inm, i10, i01, i0n, i1n, i0m, i1m, o_push, o_iload, o_aload, o_istore, o_iinc, o_iadd, o_isub, o_imul, o_iand, o_ior, o_ixor, o_ishl, o_ishr, o_iushr, o_idiv, o_irem, o_ineg, o_dup, o_dup2, o_pop, o_if_eq, o_if_ne, o_if_lt, o_if_ge, o_if_gt, o_if_le, o_icmp_eq, o_icmp_ne, o_icmp_lt, o_icmp_ge, o_icmp_gt, o_icmp_le, o_nonnull, o_lsw2, o_iret, o_zret, o_vret, o_cV0, o_cV1, o_cV2, o_cV3, o_cV4, o_cV5, o_cV6, o_cS1, o_cS2, o_cS3, o_cS4, lg, lset, inB, pushv, c1, okr, at_, List.replicate, true_and, and_true, true_or, or_true, eq_self, forall_const, not_true_eq_false, not_false_eq_true, forall_eq, false_implies, true_implies,  List.length_nil, List.length_cons, Nat.zero_le, Nat.reduceAdd, Nat.reduceLeDiff, nLe]
    refine ⟨fun q => absurd q (by omega), fun _ => r_has hS (by omega) (fun hbit => ?_) (fun hbit => ?_)⟩
    · simp (disch := omega) only [ia1, ia2, ia3, ia4, inn, inm, i10, i01, i0n, i1n, i0m, i1m, o_push, o_iload, o_aload, o_istore, o_iinc, o_iadd, o_isub, o_imul, o_iand, o_ior, o_ixor, o_ishl, o_ishr, o_iushr, o_idiv, o_irem, o_ineg, o_dup, o_dup2, o_pop, o_if_eq, o_if_ne, o_if_lt, o_if_ge, o_if_gt, o_if_le, o_icmp_eq, o_icmp_ne, o_icmp_lt, o_icmp_ge, o_icmp_gt, o_icmp_le, o_nonnull, o_lsw2, o_iret, o_zret, o_vret, o_cV0, o_cV1, o_cV2, o_cV3, o_cV4, o_cV5, o_cV6, o_cS1, o_cS2, o_cS3, o_cS4, lg, lset, inB, pushv, c1, okr, at_, List.replicate, true_and, and_true, true_or, or_true, eq_self, forall_const, not_true_eq_false, not_false_eq_true, forall_eq, false_implies, true_implies,  List.length_nil, List.length_cons, Nat.zero_le, Nat.reduceAdd, Nat.reduceLeDiff, gM0, n17, nI_add, ldI sh58, hR _ (show 17 + j < 31 by omega), n1]
      simpa [sumS, hbit] using nx
    · simp only [ia1, ia2, ia3, ia4, inn, inm, i10, i01, i0n, i1n, i0m, i1m, o_push, o_iload, o_aload, o_istore, o_iinc, o_iadd, o_isub, o_imul, o_iand, o_ior, o_ixor, o_ishl, o_ishr, o_iushr, o_idiv, o_irem, o_ineg, o_dup, o_dup2, o_pop, o_if_eq, o_if_ne, o_if_lt, o_if_ge, o_if_gt, o_if_le, o_icmp_eq, o_icmp_ne, o_icmp_lt, o_icmp_ge, o_icmp_gt, o_icmp_le, o_nonnull, o_lsw2, o_iret, o_zret, o_vret, o_cV0, o_cV1, o_cV2, o_cV3, o_cV4, o_cV5, o_cV6, o_cS1, o_cS2, o_cS3, o_cS4, lg, lset, inB, pushv, c1, okr, at_, List.replicate, true_and, and_true, true_or, or_true, eq_self, forall_const, not_true_eq_false, not_false_eq_true, forall_eq, false_implies, true_implies,  List.length_nil, List.length_cons, Nat.zero_le, Nat.reduceAdd, Nat.reduceLeDiff, n0, n1, nI_add]
      simpa [sumS, hbit] using nx
theorem r_familyOf {S : Nat} (hS : S < 2 ^ 31) (hV : VOk V) (hR : RAt σ V) (h : Q (some (.int (fmI V S))) σ) : E G MX5_familyOf (d + 1) 0 [some (.ref 57), some (.int (nI S)), none, none] [] σ Q := by
  have hn := hV.2.2.2.2.1
  apply kX5_familyOf_0
  simp only [ia1, ia2, ia3, ia4, inn, inm, i10, i01, i0n, i1n, i0m, i1m, o_push, o_iload, o_aload, o_istore, o_iinc, o_iadd, o_isub, o_imul, o_iand, o_ior, o_ixor, o_ishl, o_ishr, o_iushr, o_idiv, o_irem, o_ineg, o_dup, o_dup2, o_pop, o_if_eq, o_if_ne, o_if_lt, o_if_ge, o_if_gt, o_if_le, o_icmp_eq, o_icmp_ne, o_icmp_lt, o_icmp_ge, o_icmp_gt, o_icmp_le, o_nonnull, o_lsw2, o_iret, o_zret, o_vret, o_cV0, o_cV1, o_cV2, o_cV3, o_cV4, o_cV5, o_cV6, o_cS1, o_cS2, o_cS3, o_cS4, lg, lset, inB, pushv, c1, okr, at_, List.replicate, true_and, and_true, true_or, or_true, eq_self, forall_const, not_true_eq_false, not_false_eq_true, forall_eq, false_implies, true_implies,  List.length_nil, List.length_cons, Nat.zero_le, Nat.reduceAdd, Nat.reduceLeDiff, n0]
  have hst : ∀ i j, j + i ≤ 7 → famR V S j < 3 → famR V S (j + i) = famR V S j := by
    intro i
    induction i with
    | zero => intros; rfl
    | succ i ih =>
      intro j h1 h2
      rw [← Nat.add_assoc, famR, if_pos (by rw [ih j (by omega) h2]; exact h2), ih j (by omega) h2]
  suffices H : ∀ k j (x : Int32), k + j = V 9 → (famR V S j = 3 → x = -6) → (famR V S j < 3 → x = nI (famR V S j)) → (∀ i, i < j → S.testBit i = true → V (10 + i) = famR V S j) → E G MX5_familyOf (d + 1) 5 [some (.ref 57), some (.int (nI S)), some (.int x), some (.int (nI j))] [] σ Q from
    H (V 9) 0 _ (by omega) (fun _ => rfl) (fun z => by simp [famR] at z) (fun i hi => by omega)
  intro k
  induction k with
  | zero =>
    intro j x hjn h3 hl hu
    obtain rfl : j = V 9 := by omega
    have hle := famR_le hV S (V 9) hn
    apply kX5_familyOf_5
    simp only [ia1, ia2, ia3, ia4, inn, inm, i10, i01, i0n, i1n, i0m, i1m, o_push, o_iload, o_aload, o_istore, o_iinc, o_iadd, o_isub, o_imul, o_iand, o_ior, o_ixor, o_ishl, o_ishr, o_iushr, o_idiv, o_irem, o_ineg, o_dup, o_dup2, o_pop, o_if_eq, o_if_ne, o_if_lt, o_if_ge, o_if_gt, o_if_le, o_icmp_eq, o_icmp_ne, o_icmp_lt, o_icmp_ge, o_icmp_gt, o_icmp_le, o_nonnull, o_lsw2, o_iret, o_zret, o_vret, o_cV0, o_cV1, o_cV2, o_cV3, o_cV4, o_cV5, o_cV6, o_cS1, o_cS2, o_cS3, o_cS4, lg, lset, inB, pushv, c1, okr, at_, List.replicate, true_and, and_true, true_or, or_true, eq_self, forall_const, not_true_eq_false, not_false_eq_true, forall_eq, false_implies, true_implies,  List.length_nil, List.length_cons, Nat.zero_le, Nat.reduceAdd, Nat.reduceLeDiff, sh57k]
    refine r_many hR ?_
    simp (disch := omega) only [ia1, ia2, ia3, ia4, inn, inm, i10, i01, i0n, i1n, i0m, i1m, o_push, o_iload, o_aload, o_istore, o_iinc, o_iadd, o_isub, o_imul, o_iand, o_ior, o_ixor, o_ishl, o_ishr, o_iushr, o_idiv, o_irem, o_ineg, o_dup, o_dup2, o_pop, o_if_eq, o_if_ne, o_if_lt, o_if_ge, o_if_gt, o_if_le, o_icmp_eq, o_icmp_ne, o_icmp_lt, o_icmp_ge, o_icmp_gt, o_icmp_le, o_nonnull, o_lsw2, o_iret, o_zret, o_vret, o_cV0, o_cV1, o_cV2, o_cV3, o_cV4, o_cV5, o_cV6, o_cS1, o_cS2, o_cS3, o_cS4, lg, lset, inB, pushv, c1, okr, at_, List.replicate, true_and, and_true, true_or, or_true, eq_self, forall_const, not_true_eq_false, not_false_eq_true, forall_eq, false_implies, true_implies,  List.length_nil, List.length_cons, Nat.zero_le, Nat.reduceAdd, Nat.reduceLeDiff, nLe, Nat.le_refl]
    by_cases hf : famR V S (V 9) < 3
    · rw [fmI, if_pos ⟨hf, hu⟩] at h
      rw [hl hf]; exact h
    · rw [fmI, if_neg (fun z => hf z.1)] at h
      rw [h3 (by omega)]; exact h
  | succ k ih =>
    intro j x hjn h3 hl hu
    have hle := famR_le hV S j (by omega)
    have h1 := hV.2.2.2.2.2.1 j (by omega)
    apply kX5_familyOf_5
    simp only [ia1, ia2, ia3, ia4, inn, inm, i10, i01, i0n, i1n, i0m, i1m, o_push, o_iload, o_aload, o_istore, o_iinc, o_iadd, o_isub, o_imul, o_iand, o_ior, o_ixor, o_ishl, o_ishr, o_iushr, o_idiv, o_irem, o_ineg, o_dup, o_dup2, o_pop, o_if_eq, o_if_ne, o_if_lt, o_if_ge, o_if_gt, o_if_le, o_icmp_eq, o_icmp_ne, o_icmp_lt, o_icmp_ge, o_icmp_gt, o_icmp_le, o_nonnull, o_lsw2, o_iret, o_zret, o_vret, o_cV0, o_cV1, o_cV2, o_cV3, o_cV4, o_cV5, o_cV6, o_cS1, o_cS2, o_cS3, o_cS4, lg, lset, inB, pushv, c1, okr, at_, List.replicate, true_and, and_true, true_or, or_true, eq_self, forall_const, not_true_eq_false, not_false_eq_true, forall_eq, false_implies, true_implies,  List.length_nil, List.length_cons, Nat.zero_le, Nat.reduceAdd, Nat.reduceLeDiff, sh57k]
    refine r_many hR ?_
    simp (disch := omega) only [ia1, ia2, ia3, ia4, inn, inm, i10, i01, i0n, i1n, i0m, i1m, o_push, o_iload, o_aload, o_istore, o_iinc, o_iadd, o_isub, o_imul, o_iand, o_ior, o_ixor, o_ishl, o_ishr, o_iushr, o_idiv, o_irem, o_ineg, o_dup, o_dup2, o_pop, o_if_eq, o_if_ne, o_if_lt, o_if_ge, o_if_gt, o_if_le, o_icmp_eq, o_icmp_ne, o_icmp_lt, o_icmp_ge, o_icmp_gt, o_icmp_le, o_nonnull, o_lsw2, o_iret, o_zret, o_vret, o_cV0, o_cV1, o_cV2, o_cV3, o_cV4, o_cV5, o_cV6, o_cS1, o_cS2, o_cS3, o_cS4, lg, lset, inB, pushv, c1, okr, at_, List.replicate, true_and, and_true, true_or, or_true, eq_self, forall_const, not_true_eq_false, not_false_eq_true, forall_eq, false_implies, true_implies,  List.length_nil, List.length_cons, Nat.zero_le, Nat.reduceAdd, Nat.reduceLeDiff, nLe]
    refine ⟨fun q => absurd q (by omega), fun _ => r_has hS (by omega) (fun hbit => ?_) (fun hbit => ?_)⟩
    · simp (disch := omega) only [ia1, ia2, ia3, ia4, inn, inm, i10, i01, i0n, i1n, i0m, i1m, o_push, o_iload, o_aload, o_istore, o_iinc, o_iadd, o_isub, o_imul, o_iand, o_ior, o_ixor, o_ishl, o_ishr, o_iushr, o_idiv, o_irem, o_ineg, o_dup, o_dup2, o_pop, o_if_eq, o_if_ne, o_if_lt, o_if_ge, o_if_gt, o_if_le, o_icmp_eq, o_icmp_ne, o_icmp_lt, o_icmp_ge, o_icmp_gt, o_icmp_le, o_nonnull, o_lsw2, o_iret, o_zret, o_vret, o_cV0, o_cV1, o_cV2, o_cV3, o_cV4, o_cV5, o_cV6, o_cS1, o_cS2, o_cS3, o_cS4, lg, lset, inB, pushv, c1, okr, at_, List.replicate, true_and, and_true, true_or, or_true, eq_self, forall_const, not_true_eq_false, not_false_eq_true, forall_eq, false_implies, true_implies,  List.length_nil, List.length_cons, Nat.zero_le, Nat.reduceAdd, Nat.reduceLeDiff, gM0, n10, nI_add, ldI sh58, hR _ (show 10 + j < 31 by omega), n1]
      by_cases hf : famR V S j < 3
      · rw [hl hf]
        have e : famR V S (j + 1) = famR V S j := by rw [famR, if_pos hf]
        simp (disch := omega) only [nEq]
        refine ⟨fun z => absurd z (nI_pos (by omega)), fun _ => ⟨fun q => ?_, fun q => ?_⟩⟩
        · refine ih (j + 1) _ (by omega) (fun z => by omega) (fun _ => by rw [e, q]) (fun i hi hb => ?_)
          rw [e]
          by_cases hij : i = j
          · subst hij; exact q.symm
          · exact hu i (by omega) hb
        · rw [fmI, if_neg] at h
          · exact h
          · rintro ⟨z1, z2⟩
            have e2 := hst (k + 1) j (by omega) hf
            rw [show j + (k + 1) = V 9 by omega] at e2
            have := z2 j (by omega) hbit
            unfold famS at this
            rw [e2] at this
            exact q this.symm
      · have h33 : famR V S j = 3 := by omega
        rw [h3 h33]
        have e : famR V S (j + 1) = V (10 + j) := by rw [famR, if_neg hf, if_pos hbit]
        refine ⟨fun _ => ?_, fun z => absurd n6neg z⟩
        refine ih (j + 1) _ (by omega) (fun z => by omega) (fun _ => by rw [e]) (fun i hi hb => ?_)
        rw [e]
        by_cases hij : i = j
        · subst hij; rfl
        · exact absurd ((famR_none hV j (by omega)).mpr ⟨i, by omega, hb⟩) hf
    · simp only [ia1, ia2, ia3, ia4, inn, inm, i10, i01, i0n, i1n, i0m, i1m, o_push, o_iload, o_aload, o_istore, o_iinc, o_iadd, o_isub, o_imul, o_iand, o_ior, o_ixor, o_ishl, o_ishr, o_iushr, o_idiv, o_irem, o_ineg, o_dup, o_dup2, o_pop, o_if_eq, o_if_ne, o_if_lt, o_if_ge, o_if_gt, o_if_le, o_icmp_eq, o_icmp_ne, o_icmp_lt, o_icmp_ge, o_icmp_gt, o_icmp_le, o_nonnull, o_lsw2, o_iret, o_zret, o_vret, o_cV0, o_cV1, o_cV2, o_cV3, o_cV4, o_cV5, o_cV6, o_cS1, o_cS2, o_cS3, o_cS4, lg, lset, inB, pushv, c1, okr, at_, List.replicate, true_and, and_true, true_or, or_true, eq_self, forall_const, not_true_eq_false, not_false_eq_true, forall_eq, false_implies, true_implies,  List.length_nil, List.length_cons, Nat.zero_le, Nat.reduceAdd, Nat.reduceLeDiff, n1, nI_add]
      have e : famR V S (j + 1) = famR V S j := by
        rw [famR]
        split
        · rfl
        · rw [if_neg (by rw [hbit]; simp)]; omega
      refine ih (j + 1) x (by omega) (by rw [e]; exact h3) (by rw [e]; exact hl) (fun i hi hb => ?_)
      rw [e]
      by_cases hij : i = j
      · subst hij; rw [hbit] at hb; cases hb
      · exact hu i (by omega) hb
theorem r_changeOf {a b : Nat} (ha : a ≤ 9) (hb : b ≤ 9) (hV : VOk V) (hR : RAt σ V) (h : Q (some (.int (nI (if a < b then V 7 * (b - a) else V 8 * (a - b))))) σ) : E G MX5_changeOf d 0 [some (.ref 57), some (.int (nI a)), some (.int (nI b))] [] σ Q := by
  apply kX5_changeOf_0
  simp (disch := omega) only [ia1, ia2, ia3, ia4, inn, inm, i10, i01, i0n, i1n, i0m, i1m, o_push, o_iload, o_aload, o_istore, o_iinc, o_iadd, o_isub, o_imul, o_iand, o_ior, o_ixor, o_ishl, o_ishr, o_iushr, o_idiv, o_irem, o_ineg, o_dup, o_dup2, o_pop, o_if_eq, o_if_ne, o_if_lt, o_if_ge, o_if_gt, o_if_le, o_icmp_eq, o_icmp_ne, o_icmp_lt, o_icmp_ge, o_icmp_gt, o_icmp_le, o_nonnull, o_lsw2, o_iret, o_zret, o_vret, o_cV0, o_cV1, o_cV2, o_cV3, o_cV4, o_cV5, o_cV6, o_cS1, o_cS2, o_cS3, o_cS4, lg, lset, inB, pushv, c1, okr, at_, List.replicate, true_and, and_true, true_or, or_true, eq_self, forall_const, not_true_eq_false, not_false_eq_true, forall_eq, false_implies, true_implies,  List.length_nil, List.length_cons, Nat.zero_le, Nat.reduceAdd, Nat.reduceLeDiff, nLe, gM0, n8, n7, ldI sh58, hR 8 (by omega), hR 7 (by omega)]
  refine ⟨fun q => ?_, fun q => ?_⟩
  · rw [nSub q, pk_mul]
    rw [if_neg (by omega)] at h; exact h
  · rw [nSub (by omega), pk_mul]
    rw [if_pos (by omega)] at h; exact h
theorem r_endOf {t g f : Nat} (hg : g < 4) (hf : f < 3) (hV : VOk V) (hR : RAt σ V) (h : Q (some (.int (nI (t + tk V g f)))) σ) : E G MX5_endOf (d + 1) 0 [some (.ref 57), some (.int (nI t)), some (.int (nI g)), some (.int (nI f)), none] [] σ Q := by
  have hfe : ht V f = V f := by unfold ht; rw [if_pos hf]
  have hce : ck V f = V (3 + f) := by unfold ck; rw [if_pos hf]
  have hV1 := hV.1 f hf
  have mid : E G MX5_endOf (d + 1) 17 [some (.ref 57), some (.int (nI t)), some (.int (nI g)), some (.int (nI f)), none] [.int (nI (ht V g))] σ Q := by
    apply kX5_endOf_17
    simp (disch := omega) only [ia1, ia2, ia3, ia4, inn, inm, i10, i01, i0n, i1n, i0m, i1m, o_push, o_iload, o_aload, o_istore, o_iinc, o_iadd, o_isub, o_imul, o_iand, o_ior, o_ixor, o_ishl, o_ishr, o_iushr, o_idiv, o_irem, o_ineg, o_dup, o_dup2, o_pop, o_if_eq, o_if_ne, o_if_lt, o_if_ge, o_if_gt, o_if_le, o_icmp_eq, o_icmp_ne, o_icmp_lt, o_icmp_ge, o_icmp_gt, o_icmp_le, o_nonnull, o_lsw2, o_iret, o_zret, o_vret, o_cV0, o_cV1, o_cV2, o_cV3, o_cV4, o_cV5, o_cV6, o_cS1, o_cS2, o_cS3, o_cS4, lg, lset, inB, pushv, c1, okr, at_, List.replicate, true_and, and_true, true_or, or_true, eq_self, forall_const, not_true_eq_false, not_false_eq_true, forall_eq, false_implies, true_implies,  List.length_nil, List.length_cons, Nat.zero_le, Nat.reduceAdd, Nat.reduceLeDiff, gM0, n0, nI_add, Nat.zero_add, ldI sh58, hR f (by omega), sh57k]
    refine r_changeOf (ht_le hV g) hV1.1 hV hR ?_
    simp (disch := omega) only [ia1, ia2, ia3, ia4, inn, inm, i10, i01, i0n, i1n, i0m, i1m, o_push, o_iload, o_aload, o_istore, o_iinc, o_iadd, o_isub, o_imul, o_iand, o_ior, o_ixor, o_ishl, o_ishr, o_iushr, o_idiv, o_irem, o_ineg, o_dup, o_dup2, o_pop, o_if_eq, o_if_ne, o_if_lt, o_if_ge, o_if_gt, o_if_le, o_icmp_eq, o_icmp_ne, o_icmp_lt, o_icmp_ge, o_icmp_gt, o_icmp_le, o_nonnull, o_lsw2, o_iret, o_zret, o_vret, o_cV0, o_cV1, o_cV2, o_cV3, o_cV4, o_cV5, o_cV6, o_cS1, o_cS2, o_cS3, o_cS4, lg, lset, inB, pushv, c1, okr, at_, List.replicate, true_and, and_true, true_or, or_true, eq_self, forall_const, not_true_eq_false, not_false_eq_true, forall_eq, false_implies, true_implies,  List.length_nil, List.length_cons, Nat.zero_le, Nat.reduceAdd, Nat.reduceLeDiff, gM0, n3, nI_add, ldI sh58, hR (3 + f) (by omega)]
    have e : t + (if ht V g < V f then V 7 * (V f - ht V g) else V 8 * (ht V g - V f)) + V (3 + f) = t + tk V g f := by
      unfold tk; rw [hfe, hce, Nat.add_assoc]
    rw [e]; exact h
  apply kX5_endOf_0
  simp (disch := omega) only [ia1, ia2, ia3, ia4, inn, inm, i10, i01, i0n, i1n, i0m, i1m, o_push, o_iload, o_aload, o_istore, o_iinc, o_iadd, o_isub, o_imul, o_iand, o_ior, o_ixor, o_ishl, o_ishr, o_iushr, o_idiv, o_irem, o_ineg, o_dup, o_dup2, o_pop, o_if_eq, o_if_ne, o_if_lt, o_if_ge, o_if_gt, o_if_le, o_icmp_eq, o_icmp_ne, o_icmp_lt, o_icmp_ge, o_icmp_gt, o_icmp_le, o_nonnull, o_lsw2, o_iret, o_zret, o_vret, o_cV0, o_cV1, o_cV2, o_cV3, o_cV4, o_cV5, o_cV6, o_cS1, o_cS2, o_cS3, o_cS4, lg, lset, inB, pushv, c1, okr, at_, List.replicate, true_and, and_true, true_or, or_true, eq_self, forall_const, not_true_eq_false, not_false_eq_true, forall_eq, false_implies, true_implies,  List.length_nil, List.length_cons, Nat.zero_le, Nat.reduceAdd, Nat.reduceLeDiff, n3, nEq, gM0, n0, nI_add, Nat.zero_add]
  refine ⟨fun q => ?_, fun q => ?_⟩
  · simp (disch := omega) only [ldI sh58, hR g (by omega)]
    have e : ht V g = V g := by unfold ht; rw [if_pos (by omega)]
    rw [e] at mid
    exact mid
  · have e : ht V g = 0 := by unfold ht; rw [if_neg (by omega)]
    rw [e] at mid; exact mid
theorem r_worstOf {S e : Nat} (hS : S < 2 ^ 31) (he : e < 600) (hV : VOk V) (hR : RAt σ V) (h : Q (some (.int (nI (lateR 0 V S e (V 9))))) σ) : E G MX5_worstOf (d + 1) 0 [some (.ref 57), some (.int (nI S)), some (.int (nI e)), none, none, none] [] σ Q := by
  have hn := hV.2.2.2.2.1
  apply kX5_worstOf_0
  simp only [ia1, ia2, ia3, ia4, inn, inm, i10, i01, i0n, i1n, i0m, i1m, o_push, o_iload, o_aload, o_istore, o_iinc, o_iadd, o_isub, o_imul, o_iand, o_ior, o_ixor, o_ishl, o_ishr, o_iushr, o_idiv, o_irem, o_ineg, o_dup, o_dup2, o_pop, o_if_eq, o_if_ne, o_if_lt, o_if_ge, o_if_gt, o_if_le, o_icmp_eq, o_icmp_ne, o_icmp_lt, o_icmp_ge, o_icmp_gt, o_icmp_le, o_nonnull, o_lsw2, o_iret, o_zret, o_vret, o_cV0, o_cV1, o_cV2, o_cV3, o_cV4, o_cV5, o_cV6, o_cS1, o_cS2, o_cS3, o_cS4, lg, lset, inB, pushv, c1, okr, at_, List.replicate, true_and, and_true, true_or, or_true, eq_self, forall_const, not_true_eq_false, not_false_eq_true, forall_eq, false_implies, true_implies,  List.length_nil, List.length_cons, Nat.zero_le, Nat.reduceAdd, Nat.reduceLeDiff, n0]
  suffices H : ∀ k j (x : Option Value), k + j = V 9 → E G MX5_worstOf (d + 1) 5 [some (.ref 57), some (.int (nI S)), some (.int (nI e)), some (.int (nI (lateR 0 V S e j))), some (.int (nI j)), x] [] σ Q from H (V 9) 0 _ (by omega)
  intro k
  induction k with
  | zero =>
    intro j x hjn
    obtain rfl : j = V 9 := by omega
    apply kX5_worstOf_5
    simp only [ia1, ia2, ia3, ia4, inn, inm, i10, i01, i0n, i1n, i0m, i1m, o_push, o_iload, o_aload, o_istore, o_iinc, o_iadd, o_isub, o_imul, o_iand, o_ior, o_ixor, o_ishl, o_ishr, o_iushr, o_idiv, o_irem, o_ineg, o_dup, o_dup2, o_pop, o_if_eq, o_if_ne, o_if_lt, o_if_ge, o_if_gt, o_if_le, o_icmp_eq, o_icmp_ne, o_icmp_lt, o_icmp_ge, o_icmp_gt, o_icmp_le, o_nonnull, o_lsw2, o_iret, o_zret, o_vret, o_cV0, o_cV1, o_cV2, o_cV3, o_cV4, o_cV5, o_cV6, o_cS1, o_cS2, o_cS3, o_cS4, lg, lset, inB, pushv, c1, okr, at_, List.replicate, true_and, and_true, true_or, or_true, eq_self, forall_const, not_true_eq_false, not_false_eq_true, forall_eq, false_implies, true_implies,  List.length_nil, List.length_cons, Nat.zero_le, Nat.reduceAdd, Nat.reduceLeDiff, sh57k]
    refine r_many hR ?_
    simp (disch := omega) only [ia1, ia2, ia3, ia4, inn, inm, i10, i01, i0n, i1n, i0m, i1m, o_push, o_iload, o_aload, o_istore, o_iinc, o_iadd, o_isub, o_imul, o_iand, o_ior, o_ixor, o_ishl, o_ishr, o_iushr, o_idiv, o_irem, o_ineg, o_dup, o_dup2, o_pop, o_if_eq, o_if_ne, o_if_lt, o_if_ge, o_if_gt, o_if_le, o_icmp_eq, o_icmp_ne, o_icmp_lt, o_icmp_ge, o_icmp_gt, o_icmp_le, o_nonnull, o_lsw2, o_iret, o_zret, o_vret, o_cV0, o_cV1, o_cV2, o_cV3, o_cV4, o_cV5, o_cV6, o_cS1, o_cS2, o_cS3, o_cS4, lg, lset, inB, pushv, c1, okr, at_, List.replicate, true_and, and_true, true_or, or_true, eq_self, forall_const, not_true_eq_false, not_false_eq_true, forall_eq, false_implies, true_implies,  List.length_nil, List.length_cons, Nat.zero_le, Nat.reduceAdd, Nat.reduceLeDiff, nLe, Nat.le_refl]
    exact h
  | succ k ih =>
    intro j x hjn
    have hd := (hV.2.2.2.2.2.1 j (by omega)).2.2
    have hl := lateR_le (m := 0) (V := V) (S := S) (e := e) j
    have hje : j * e ≤ 7 * 600 := Nat.mul_le_mul (by omega) (by omega)
    have nx := fun y => ih (j + 1) y (by omega)
    apply kX5_worstOf_5
    simp only [ia1, ia2, ia3, ia4, inn, inm, i10, i01, i0n, i1n, i0m, i1m, o_push, o_iload, o_aload, o_istore, o_iinc, o_iadd, o_isub, o_imul, o_iand, o_ior, o_ixor, o_ishl, o_ishr, o_iushr, o_idiv, o_irem, o_ineg, o_dup, o_dup2, o_pop, o_if_eq, o_if_ne, o_if_lt, o_if_ge, o_if_gt, o_if_le, o_icmp_eq, o_icmp_ne, o_icmp_lt, o_icmp_ge, o_icmp_gt, o_icmp_le, o_nonnull, o_lsw2, o_iret, o_zret, o_vret, o_cV0, o_cV1, o_cV2, o_cV3, o_cV4, o_cV5, o_cV6, o_cS1, o_cS2, o_cS3, o_cS4, lg, lset, inB, pushv, c1, okr, at_, List.replicate, true_and, and_true, true_or, or_true, eq_self, forall_const, not_true_eq_false, not_false_eq_true, forall_eq, false_implies, true_implies,  List.length_nil, List.length_cons, Nat.zero_le, Nat.reduceAdd, Nat.reduceLeDiff, sh57k]
    refine r_many hR ?_
    simp (disch := omega) only [ia1, ia2, ia3, ia4, inn, inm, i10, i01, i0n, i1n, i0m, i1m, o_push, o_iload, o_aload, o_istore, o_iinc, o_iadd, o_isub, o_imul, o_iand, o_ior, o_ixor, o_ishl, o_ishr, o_iushr, o_idiv, o_irem, o_ineg, o_dup, o_dup2, o_pop, o_if_eq, o_if_ne, o_if_lt, o_if_ge, o_if_gt, o_if_le, o_icmp_eq, o_icmp_ne, o_icmp_lt, o_icmp_ge, o_icmp_gt, o_icmp_le, o_nonnull, o_lsw2, o_iret, o_zret, o_vret, o_cV0, o_cV1, o_cV2, o_cV3, o_cV4, o_cV5, o_cV6, o_cS1, o_cS2, o_cS3, o_cS4, lg, lset, inB, pushv, c1, okr, at_, List.replicate, true_and, and_true, true_or, or_true, eq_self, forall_const, not_true_eq_false, not_false_eq_true, forall_eq, false_implies, true_implies,  List.length_nil, List.length_cons, Nat.zero_le, Nat.reduceAdd, Nat.reduceLeDiff, nLe]
    refine ⟨fun q => absurd q (by omega), fun _ => r_has hS (by omega) (fun hbit => ?_) (fun hbit => ?_)⟩
    · simp (disch := omega) only [ia1, ia2, ia3, ia4, inn, inm, i10, i01, i0n, i1n, i0m, i1m, o_push, o_iload, o_aload, o_istore, o_iinc, o_iadd, o_isub, o_imul, o_iand, o_ior, o_ixor, o_ishl, o_ishr, o_iushr, o_idiv, o_irem, o_ineg, o_dup, o_dup2, o_pop, o_if_eq, o_if_ne, o_if_lt, o_if_ge, o_if_gt, o_if_le, o_icmp_eq, o_icmp_ne, o_icmp_lt, o_icmp_ge, o_icmp_gt, o_icmp_le, o_nonnull, o_lsw2, o_iret, o_zret, o_vret, o_cV0, o_cV1, o_cV2, o_cV3, o_cV4, o_cV5, o_cV6, o_cS1, o_cS2, o_cS3, o_cS4, lg, lset, inB, pushv, c1, okr, at_, List.replicate, true_and, and_true, true_or, or_true, eq_self, forall_const, not_true_eq_false, not_false_eq_true, forall_eq, false_implies, true_implies,  List.length_nil, List.length_cons, Nat.zero_le, Nat.reduceAdd, Nat.reduceLeDiff, gM0, n24, nI_add, ldI sh58, hR _ (show 24 + j < 31 by omega), over_le, n1]
      have e1 : lateR 0 V S e (j + 1) = max (lateR 0 V S e j) (e - V (24 + j)) := by rw [lateR]; simp [hbit, jn]
      refine ⟨fun q => ?_, fun q => ?_⟩
      · rw [e1, Nat.max_eq_left q] at nx; exact nx _
      · rw [e1, Nat.max_eq_right (by omega)] at nx
        rw [nSub (by omega)]; exact nx _
    · simp (disch := omega) only [ia1, ia2, ia3, ia4, inn, inm, i10, i01, i0n, i1n, i0m, i1m, o_push, o_iload, o_aload, o_istore, o_iinc, o_iadd, o_isub, o_imul, o_iand, o_ior, o_ixor, o_ishl, o_ishr, o_iushr, o_idiv, o_irem, o_ineg, o_dup, o_dup2, o_pop, o_if_eq, o_if_ne, o_if_lt, o_if_ge, o_if_gt, o_if_le, o_icmp_eq, o_icmp_ne, o_icmp_lt, o_icmp_ge, o_icmp_gt, o_icmp_le, o_nonnull, o_lsw2, o_iret, o_zret, o_vret, o_cV0, o_cV1, o_cV2, o_cV3, o_cV4, o_cV5, o_cV6, o_cS1, o_cS2, o_cS3, o_cS4, lg, lset, inB, pushv, c1, okr, at_, List.replicate, true_and, and_true, true_or, or_true, eq_self, forall_const, not_true_eq_false, not_false_eq_true, forall_eq, false_implies, true_implies,  List.length_nil, List.length_cons, Nat.zero_le, Nat.reduceAdd, Nat.reduceLeDiff, n0, nLe, n1, nI_add]
      have e1 : lateR 0 V S e (j + 1) = lateR 0 V S e j := by rw [lateR]; simp [hbit]
      rw [e1] at nx
      exact nx _
theorem r_sumOf {S e : Nat} (hS : S < 2 ^ 31) (he : e < 600) (hV : VOk V) (hR : RAt σ V) (h : Q (some (.int (nI (lateR 1 V S e (V 9))))) σ) : E G MX5_sumOf (d + 1) 0 [some (.ref 57), some (.int (nI S)), some (.int (nI e)), none, none, none] [] σ Q := by
  have hn := hV.2.2.2.2.1
  apply kX5_sumOf_0
  simp only [ia1, ia2, ia3, ia4, inn, inm, i10, i01, i0n, i1n, i0m, i1m, o_push, o_iload, o_aload, o_istore, o_iinc, o_iadd, o_isub, o_imul, o_iand, o_ior, o_ixor, o_ishl, o_ishr, o_iushr, o_idiv, o_irem, o_ineg, o_dup, o_dup2, o_pop, o_if_eq, o_if_ne, o_if_lt, o_if_ge, o_if_gt, o_if_le, o_icmp_eq, o_icmp_ne, o_icmp_lt, o_icmp_ge, o_icmp_gt, o_icmp_le, o_nonnull, o_lsw2, o_iret, o_zret, o_vret, o_cV0, o_cV1, o_cV2, o_cV3, o_cV4, o_cV5, o_cV6, o_cS1, o_cS2, o_cS3, o_cS4, lg, lset, inB, pushv, c1, okr, at_, List.replicate, true_and, and_true, true_or, or_true, eq_self, forall_const, not_true_eq_false, not_false_eq_true, forall_eq, false_implies, true_implies,  List.length_nil, List.length_cons, Nat.zero_le, Nat.reduceAdd, Nat.reduceLeDiff, n0]
  suffices H : ∀ k j (x : Option Value), k + j = V 9 → E G MX5_sumOf (d + 1) 5 [some (.ref 57), some (.int (nI S)), some (.int (nI e)), some (.int (nI (lateR 1 V S e j))), some (.int (nI j)), x] [] σ Q from H (V 9) 0 _ (by omega)
  intro k
  induction k with
  | zero =>
    intro j x hjn
    obtain rfl : j = V 9 := by omega
    apply kX5_sumOf_5
    simp only [ia1, ia2, ia3, ia4, inn, inm, i10, i01, i0n, i1n, i0m, i1m, o_push, o_iload, o_aload, o_istore, o_iinc, o_iadd, o_isub, o_imul, o_iand, o_ior, o_ixor, o_ishl, o_ishr, o_iushr, o_idiv, o_irem, o_ineg, o_dup, o_dup2, o_pop, o_if_eq, o_if_ne, o_if_lt, o_if_ge, o_if_gt, o_if_le, o_icmp_eq, o_icmp_ne, o_icmp_lt, o_icmp_ge, o_icmp_gt, o_icmp_le, o_nonnull, o_lsw2, o_iret, o_zret, o_vret, o_cV0, o_cV1, o_cV2, o_cV3, o_cV4, o_cV5, o_cV6, o_cS1, o_cS2, o_cS3, o_cS4, lg, lset, inB, pushv, c1, okr, at_, List.replicate, true_and, and_true, true_or, or_true, eq_self, forall_const, not_true_eq_false, not_false_eq_true, forall_eq, false_implies, true_implies,  List.length_nil, List.length_cons, Nat.zero_le, Nat.reduceAdd, Nat.reduceLeDiff, sh57k]
    refine r_many hR ?_
    simp (disch := omega) only [ia1, ia2, ia3, ia4, inn, inm, i10, i01, i0n, i1n, i0m, i1m, o_push, o_iload, o_aload, o_istore, o_iinc, o_iadd, o_isub, o_imul, o_iand, o_ior, o_ixor, o_ishl, o_ishr, o_iushr, o_idiv, o_irem, o_ineg, o_dup, o_dup2, o_pop, o_if_eq, o_if_ne, o_if_lt, o_if_ge, o_if_gt, o_if_le, o_icmp_eq, o_icmp_ne, o_icmp_lt, o_icmp_ge, o_icmp_gt, o_icmp_le, o_nonnull, o_lsw2, o_iret, o_zret, o_vret, o_cV0, o_cV1, o_cV2, o_cV3, o_cV4, o_cV5, o_cV6, o_cS1, o_cS2, o_cS3, o_cS4, lg, lset, inB, pushv, c1, okr, at_, List.replicate, true_and, and_true, true_or, or_true, eq_self, forall_const, not_true_eq_false, not_false_eq_true, forall_eq, false_implies, true_implies,  List.length_nil, List.length_cons, Nat.zero_le, Nat.reduceAdd, Nat.reduceLeDiff, nLe, Nat.le_refl]
    exact h
  | succ k ih =>
    intro j x hjn
    have hd := (hV.2.2.2.2.2.1 j (by omega)).2.2
    have nx := fun y => ih (j + 1) y (by omega)
    apply kX5_sumOf_5
    simp only [ia1, ia2, ia3, ia4, inn, inm, i10, i01, i0n, i1n, i0m, i1m, o_push, o_iload, o_aload, o_istore, o_iinc, o_iadd, o_isub, o_imul, o_iand, o_ior, o_ixor, o_ishl, o_ishr, o_iushr, o_idiv, o_irem, o_ineg, o_dup, o_dup2, o_pop, o_if_eq, o_if_ne, o_if_lt, o_if_ge, o_if_gt, o_if_le, o_icmp_eq, o_icmp_ne, o_icmp_lt, o_icmp_ge, o_icmp_gt, o_icmp_le, o_nonnull, o_lsw2, o_iret, o_zret, o_vret, o_cV0, o_cV1, o_cV2, o_cV3, o_cV4, o_cV5, o_cV6, o_cS1, o_cS2, o_cS3, o_cS4, lg, lset, inB, pushv, c1, okr, at_, List.replicate, true_and, and_true, true_or, or_true, eq_self, forall_const, not_true_eq_false, not_false_eq_true, forall_eq, false_implies, true_implies,  List.length_nil, List.length_cons, Nat.zero_le, Nat.reduceAdd, Nat.reduceLeDiff, sh57k]
    refine r_many hR ?_
    simp (disch := omega) only [ia1, ia2, ia3, ia4, inn, inm, i10, i01, i0n, i1n, i0m, i1m, o_push, o_iload, o_aload, o_istore, o_iinc, o_iadd, o_isub, o_imul, o_iand, o_ior, o_ixor, o_ishl, o_ishr, o_iushr, o_idiv, o_irem, o_ineg, o_dup, o_dup2, o_pop, o_if_eq, o_if_ne, o_if_lt, o_if_ge, o_if_gt, o_if_le, o_icmp_eq, o_icmp_ne, o_icmp_lt, o_icmp_ge, o_icmp_gt, o_icmp_le, o_nonnull, o_lsw2, o_iret, o_zret, o_vret, o_cV0, o_cV1, o_cV2, o_cV3, o_cV4, o_cV5, o_cV6, o_cS1, o_cS2, o_cS3, o_cS4, lg, lset, inB, pushv, c1, okr, at_, List.replicate, true_and, and_true, true_or, or_true, eq_self, forall_const, not_true_eq_false, not_false_eq_true, forall_eq, false_implies, true_implies,  List.length_nil, List.length_cons, Nat.zero_le, Nat.reduceAdd, Nat.reduceLeDiff, nLe]
    refine ⟨fun q => absurd q (by omega), fun _ => r_has hS (by omega) (fun hbit => ?_) (fun hbit => ?_)⟩
    · simp (disch := omega) only [ia1, ia2, ia3, ia4, inn, inm, i10, i01, i0n, i1n, i0m, i1m, o_push, o_iload, o_aload, o_istore, o_iinc, o_iadd, o_isub, o_imul, o_iand, o_ior, o_ixor, o_ishl, o_ishr, o_iushr, o_idiv, o_irem, o_ineg, o_dup, o_dup2, o_pop, o_if_eq, o_if_ne, o_if_lt, o_if_ge, o_if_gt, o_if_le, o_icmp_eq, o_icmp_ne, o_icmp_lt, o_icmp_ge, o_icmp_gt, o_icmp_le, o_nonnull, o_lsw2, o_iret, o_zret, o_vret, o_cV0, o_cV1, o_cV2, o_cV3, o_cV4, o_cV5, o_cV6, o_cS1, o_cS2, o_cS3, o_cS4, lg, lset, inB, pushv, c1, okr, at_, List.replicate, true_and, and_true, true_or, or_true, eq_self, forall_const, not_true_eq_false, not_false_eq_true, forall_eq, false_implies, true_implies,  List.length_nil, List.length_cons, Nat.zero_le, Nat.reduceAdd, Nat.reduceLeDiff, gM0, n24, nI_add, ldI sh58, hR _ (show 24 + j < 31 by omega)]
      have e1 : lateR 1 V S e (j + 1) = lateR 1 V S e j + (e - V (24 + j)) := by rw [lateR]; simp [hbit, jn]
      apply kX5_sumOf_39
      simp (disch := omega) only [ia1, ia2, ia3, ia4, inn, inm, i10, i01, i0n, i1n, i0m, i1m, o_push, o_iload, o_aload, o_istore, o_iinc, o_iadd, o_isub, o_imul, o_iand, o_ior, o_ixor, o_ishl, o_ishr, o_iushr, o_idiv, o_irem, o_ineg, o_dup, o_dup2, o_pop, o_if_eq, o_if_ne, o_if_lt, o_if_ge, o_if_gt, o_if_le, o_icmp_eq, o_icmp_ne, o_icmp_lt, o_icmp_ge, o_icmp_gt, o_icmp_le, o_nonnull, o_lsw2, o_iret, o_zret, o_vret, o_cV0, o_cV1, o_cV2, o_cV3, o_cV4, o_cV5, o_cV6, o_cS1, o_cS2, o_cS3, o_cS4, lg, lset, inB, pushv, c1, okr, at_, List.replicate, true_and, and_true, true_or, or_true, eq_self, forall_const, not_true_eq_false, not_false_eq_true, forall_eq, false_implies, true_implies,  List.length_nil, List.length_cons, Nat.zero_le, Nat.reduceAdd, Nat.reduceLeDiff, n0, over_le, n1, nI_add]
      refine ⟨fun q => ?_, fun q => ?_⟩
      · rw [e1, show e - V (24 + j) = 0 by omega] at nx; exact nx _
      · rw [nSub (by omega), nI_add]
        rw [e1] at nx; exact nx _
    · simp only [ia1, ia2, ia3, ia4, inn, inm, i10, i01, i0n, i1n, i0m, i1m, o_push, o_iload, o_aload, o_istore, o_iinc, o_iadd, o_isub, o_imul, o_iand, o_ior, o_ixor, o_ishl, o_ishr, o_iushr, o_idiv, o_irem, o_ineg, o_dup, o_dup2, o_pop, o_if_eq, o_if_ne, o_if_lt, o_if_ge, o_if_gt, o_if_le, o_icmp_eq, o_icmp_ne, o_icmp_lt, o_icmp_ge, o_icmp_gt, o_icmp_le, o_nonnull, o_lsw2, o_iret, o_zret, o_vret, o_cV0, o_cV1, o_cV2, o_cV3, o_cV4, o_cV5, o_cV6, o_cS1, o_cS2, o_cS3, o_cS4, lg, lset, inB, pushv, c1, okr, at_, List.replicate, true_and, and_true, true_or, or_true, eq_self, forall_const, not_true_eq_false, not_false_eq_true, forall_eq, false_implies, true_implies,  List.length_nil, List.length_cons, Nat.zero_le, Nat.reduceAdd, Nat.reduceLeDiff]
      have e1 : lateR 1 V S e (j + 1) = lateR 1 V S e j := by rw [lateR]; simp [hbit]
      rw [e1] at nx
      apply kX5_sumOf_39
      simp (disch := omega) only [ia1, ia2, ia3, ia4, inn, inm, i10, i01, i0n, i1n, i0m, i1m, o_push, o_iload, o_aload, o_istore, o_iinc, o_iadd, o_isub, o_imul, o_iand, o_ior, o_ixor, o_ishl, o_ishr, o_iushr, o_idiv, o_irem, o_ineg, o_dup, o_dup2, o_pop, o_if_eq, o_if_ne, o_if_lt, o_if_ge, o_if_gt, o_if_le, o_icmp_eq, o_icmp_ne, o_icmp_lt, o_icmp_ge, o_icmp_gt, o_icmp_le, o_nonnull, o_lsw2, o_iret, o_zret, o_vret, o_cV0, o_cV1, o_cV2, o_cV3, o_cV4, o_cV5, o_cV6, o_cS1, o_cS2, o_cS3, o_cS4, lg, lset, inB, pushv, c1, okr, at_, List.replicate, true_and, and_true, true_or, or_true, eq_self, forall_const, not_true_eq_false, not_false_eq_true, forall_eq, false_implies, true_implies,  List.length_nil, List.length_cons, Nat.zero_le, Nat.reduceAdd, Nat.reduceLeDiff, n0, nLe, n1, nI_add, Nat.add_zero, Nat.le_refl]
      exact nx _
theorem r_both {m S e : Nat} (hm : m < 4) (hS : S < 2 ^ 31) (he : e < 600) (hV : VOk V) (hR : RAt σ V) (h : Q (some (.int (nI (bth m V S e)))) σ) : E G MX5_both (d + 2) 0 [some (.ref 57), some (.int (nI m)), some (.int (nI S)), some (.int (nI e))] [] σ Q := by
  apply kX5_both_0
  simp (disch := omega) only [ia1, ia2, ia3, ia4, inn, inm, i10, i01, i0n, i1n, i0m, i1m, o_push, o_iload, o_aload, o_istore, o_iinc, o_iadd, o_isub, o_imul, o_iand, o_ior, o_ixor, o_ishl, o_ishr, o_iushr, o_idiv, o_irem, o_ineg, o_dup, o_dup2, o_pop, o_if_eq, o_if_ne, o_if_lt, o_if_ge, o_if_gt, o_if_le, o_icmp_eq, o_icmp_ne, o_icmp_lt, o_icmp_ge, o_icmp_gt, o_icmp_le, o_nonnull, o_lsw2, o_iret, o_zret, o_vret, o_cV0, o_cV1, o_cV2, o_cV3, o_cV4, o_cV5, o_cV6, o_cS1, o_cS2, o_cS3, o_cS4, lg, lset, inB, pushv, c1, okr, at_, List.replicate, true_and, and_true, true_or, or_true, eq_self, forall_const, not_true_eq_false, not_false_eq_true, forall_eq, false_implies, true_implies,  List.length_nil, List.length_cons, Nat.zero_le, Nat.reduceAdd, Nat.reduceLeDiff, n0, n1, n2, nEq, sh57k]
  refine ⟨fun q0 => ⟨fun q1 => ⟨fun q2 => ?_, fun q2 => ?_⟩, fun q1 => r_sumOf hS he hV hR ?_⟩, fun q0 => r_worstOf hS he hV hR ?_⟩
  · rw [bth, if_neg q0, if_neg q1, if_neg q2] at h; exact h
  · rw [bth, if_neg q0, if_neg q1, if_pos q2] at h; exact h
  · simp only [ia1, ia2, ia3, ia4, inn, inm, i10, i01, i0n, i1n, i0m, i1m, o_push, o_iload, o_aload, o_istore, o_iinc, o_iadd, o_isub, o_imul, o_iand, o_ior, o_ixor, o_ishl, o_ishr, o_iushr, o_idiv, o_irem, o_ineg, o_dup, o_dup2, o_pop, o_if_eq, o_if_ne, o_if_lt, o_if_ge, o_if_gt, o_if_le, o_icmp_eq, o_icmp_ne, o_icmp_lt, o_icmp_ge, o_icmp_gt, o_icmp_le, o_nonnull, o_lsw2, o_iret, o_zret, o_vret, o_cV0, o_cV1, o_cV2, o_cV3, o_cV4, o_cV5, o_cV6, o_cS1, o_cS2, o_cS3, o_cS4, lg, lset, inB, pushv, c1, okr, at_, List.replicate, true_and, and_true, true_or, or_true, eq_self, forall_const, not_true_eq_false, not_false_eq_true, forall_eq, false_implies, true_implies,  List.length_nil, List.length_cons, Nat.zero_le, Nat.reduceAdd, Nat.reduceLeDiff]
    rw [bth, if_neg q0, if_pos q1] at h; exact h
  · simp only [ia1, ia2, ia3, ia4, inn, inm, i10, i01, i0n, i1n, i0m, i1m, o_push, o_iload, o_aload, o_istore, o_iinc, o_iadd, o_isub, o_imul, o_iand, o_ior, o_ixor, o_ishl, o_ishr, o_iushr, o_idiv, o_irem, o_ineg, o_dup, o_dup2, o_pop, o_if_eq, o_if_ne, o_if_lt, o_if_ge, o_if_gt, o_if_le, o_icmp_eq, o_icmp_ne, o_icmp_lt, o_icmp_ge, o_icmp_gt, o_icmp_le, o_nonnull, o_lsw2, o_iret, o_zret, o_vret, o_cV0, o_cV1, o_cV2, o_cV3, o_cV4, o_cV5, o_cV6, o_cS1, o_cS2, o_cS3, o_cS4, lg, lset, inB, pushv, c1, okr, at_, List.replicate, true_and, and_true, true_or, or_true, eq_self, forall_const, not_true_eq_false, not_false_eq_true, forall_eq, false_implies, true_implies,  List.length_nil, List.length_cons, Nat.zero_le, Nat.reduceAdd, Nat.reduceLeDiff]
    rw [bth, if_pos q0] at h; exact h
theorem r_together {m x y : Nat} (hm : m < 2 ^ 31) (hx : x < 2 ^ 31) (hy : y < 2 ^ 31) (h : Q (some (.int (nI (jn m x y)))) σ) : E G MX5_together d 0 [some (.int (nI m)), some (.int (nI x)), some (.int (nI y))] [] σ Q := by
  apply kX5_together_0
  simp only [ia1, ia2, ia3, ia4, inn, inm, i10, i01, i0n, i1n, i0m, i1m, o_push, o_iload, o_aload, o_istore, o_iinc, o_iadd, o_isub, o_imul, o_iand, o_ior, o_ixor, o_ishl, o_ishr, o_iushr, o_idiv, o_irem, o_ineg, o_dup, o_dup2, o_pop, o_if_eq, o_if_ne, o_if_lt, o_if_ge, o_if_gt, o_if_le, o_icmp_eq, o_icmp_ne, o_icmp_lt, o_icmp_ge, o_icmp_gt, o_icmp_le, o_nonnull, o_lsw2, o_iret, o_zret, o_vret, o_cV0, o_cV1, o_cV2, o_cV3, o_cV4, o_cV5, o_cV6, o_cS1, o_cS2, o_cS3, o_cS4, lg, lset, inB, pushv, c1, okr, at_, List.replicate, true_and, and_true, true_or, or_true, eq_self, forall_const, not_true_eq_false, not_false_eq_true, forall_eq, false_implies, true_implies,  List.length_nil, List.length_cons, Nat.zero_le, Nat.reduceAdd, Nat.reduceLeDiff, n0, nEq hm (show 0 < 2 ^ 31 by omega), nI_add, nLe hx hy]
  refine ⟨fun q => ?_, fun q => ⟨fun q2 => ?_, fun q2 => ?_⟩⟩
  · rw [jn, if_neg q] at h; exact h
  · rw [jn, if_pos q, Nat.max_eq_right q2] at h; exact h
  · rw [jn, if_pos q, Nat.max_eq_left (by omega)] at h; exact h
theorem r_place {s l t : Nat} (h : Q (some (.int (nI (plc s l t)))) σ) : E G MX5_place d 0 [some (.int (nI s)), some (.int (nI l)), some (.int (nI t))] [] σ Q := by
  apply kX5_place_0
  simp only [ia1, ia2, ia3, ia4, inn, inm, i10, i01, i0n, i1n, i0m, i1m, o_push, o_iload, o_aload, o_istore, o_iinc, o_iadd, o_isub, o_imul, o_iand, o_ior, o_ixor, o_ishl, o_ishr, o_iushr, o_idiv, o_irem, o_ineg, o_dup, o_dup2, o_pop, o_if_eq, o_if_ne, o_if_lt, o_if_ge, o_if_gt, o_if_le, o_icmp_eq, o_icmp_ne, o_icmp_lt, o_icmp_ge, o_icmp_gt, o_icmp_le, o_nonnull, o_lsw2, o_iret, o_zret, o_vret, o_cV0, o_cV1, o_cV2, o_cV3, o_cV4, o_cV5, o_cV6, o_cS1, o_cS2, o_cS3, o_cS4, lg, lset, inB, pushv, c1, okr, at_, List.replicate, true_and, and_true, true_or, or_true, eq_self, forall_const, not_true_eq_false, not_false_eq_true, forall_eq, false_implies, true_implies,  List.length_nil, List.length_cons, Nat.zero_le, Nat.reduceAdd, Nat.reduceLeDiff, n4, n330, pk_mul, nI_add]
  exact h
theorem r_full (hV : VOk V) (hR : RAt σ V) (h : Q (some (.int (nI (fullS V)))) σ) : E G MX5_full (d + 1) 0 [some (.ref 57)] [] σ Q := by
  have hn := hV.2.2.2.2.1
  have h2 : 1 ≤ 2 ^ V 9 := Nat.one_le_two_pow
  apply kX5_full_0
  simp only [ia1, ia2, ia3, ia4, inn, inm, i10, i01, i0n, i1n, i0m, i1m, o_push, o_iload, o_aload, o_istore, o_iinc, o_iadd, o_isub, o_imul, o_iand, o_ior, o_ixor, o_ishl, o_ishr, o_iushr, o_idiv, o_irem, o_ineg, o_dup, o_dup2, o_pop, o_if_eq, o_if_ne, o_if_lt, o_if_ge, o_if_gt, o_if_le, o_icmp_eq, o_icmp_ne, o_icmp_lt, o_icmp_ge, o_icmp_gt, o_icmp_le, o_nonnull, o_lsw2, o_iret, o_zret, o_vret, o_cV0, o_cV1, o_cV2, o_cV3, o_cV4, o_cV5, o_cV6, o_cS1, o_cS2, o_cS3, o_cS4, lg, lset, inB, pushv, c1, okr, at_, List.replicate, true_and, and_true, true_or, or_true, eq_self, forall_const, not_true_eq_false, not_false_eq_true, forall_eq, false_implies, true_implies,  List.length_nil, List.length_cons, Nat.zero_le, Nat.reduceAdd, Nat.reduceLeDiff, sh57k]
  refine r_many hR ?_
  simp (disch := omega) only [ia1, ia2, ia3, ia4, inn, inm, i10, i01, i0n, i1n, i0m, i1m, o_push, o_iload, o_aload, o_istore, o_iinc, o_iadd, o_isub, o_imul, o_iand, o_ior, o_ixor, o_ishl, o_ishr, o_iushr, o_idiv, o_irem, o_ineg, o_dup, o_dup2, o_pop, o_if_eq, o_if_ne, o_if_lt, o_if_ge, o_if_gt, o_if_le, o_icmp_eq, o_icmp_ne, o_icmp_lt, o_icmp_ge, o_icmp_gt, o_icmp_le, o_nonnull, o_lsw2, o_iret, o_zret, o_vret, o_cV0, o_cV1, o_cV2, o_cV3, o_cV4, o_cV5, o_cV6, o_cS1, o_cS2, o_cS3, o_cS4, lg, lset, inB, pushv, c1, okr, at_, List.replicate, true_and, and_true, true_or, or_true, eq_self, forall_const, not_true_eq_false, not_false_eq_true, forall_eq, false_implies, true_implies,  List.length_nil, List.length_cons, Nat.zero_le, Nat.reduceAdd, Nat.reduceLeDiff, n1, shl1, nSub]
  exact h
end LEAFM
