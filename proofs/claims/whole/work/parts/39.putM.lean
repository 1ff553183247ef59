/-! fault, row, at, put of the reference -/
theorem nDec1 : ∀ x, x < 20 → 1 ≤ x → nI x + -nI 1 = nI (x - 1) := by decide +kernel
theorem orNone_lt {x : Option Nat} (hx : ∀ v, x = some v → v < 1000) : (orNone x < 0) = (x = none) := by
  cases x with
  | none => exact propext ⟨fun _ => rfl, fun _ => n6neg⟩
  | some v => exact propext ⟨fun z => absurd z (nI_pos (by have := hx v rfl; omega)), fun z => by cases z⟩
section PUTM
variable {G : Gp} {d : Nat} {Q : Option Value → Mem → Prop} {σ : Mem} {V B : Nat → Nat} {A : ASt} {k : Nat}
def PFr (σ τ : Mem) : Prop := (∀ a, a ≠ 57 → a ≠ 62 → a ≠ 63 → τ a = σ a) ∧ ∀ i, i ≠ 6 → i ≠ 11 → i ≠ 12 → τ 57 i = σ 57 i
theorem InvM.pfr {τ : Mem} (h : InvM σ A) (hf : PFr σ τ) : InvM τ A := h.fr (h.1.fr (hf.1 58 (by omega) (by omega) (by omega))) (hf.2 4 (by omega) (by omega) (by omega)) (fun a ha => hf.1 a (by omega) (by omega) (by omega))
theorem PFr.m {τ : Mem} (hf : PFr σ τ) : MFr σ τ := fun a ha => hf.1 a (by omega) (by omega) (by omega)
theorem r_pad (hA : AOk A) (hI : InvM σ A) (h : ∀ τ, PFr σ τ → τ 57 11 = nI (padX A.1 A.2.2.2.2.1 A.2.2.2.2.2).2.1 → (pdF A = none → MPl τ (pdK A) (pdB A)) → Q (some (.int (orNone (pdF A)))) τ) : E G MX5_layPad (d + 3) 0 [some (.ref 57), none] [] σ Q :=
  r_layPad hA.1 hI.1 hA.2.1.1 hA.2.1.2 hI.2.1.1 hI.2.1.2 (fun τ f1 f2 h11 hM => h τ ⟨fun a z1 z2 _ => f1 a z1 z2, f2⟩ h11 hM)
theorem r_Xfault (hA : AOk A) (hI : InvM σ A) (h : ∀ τ, MFr σ τ → InvM τ A → Q (some (.int (opFault A))) τ) : E G MX5_fault (d + 20) 0 [some (.ref 57)] [] σ Q := by
  apply kX5_fault_0
  simp only [ia1, ia2, ia3, ia4, inn, inm, i10, i01, i0n, i1n, i0m, i1m, o_push, o_iload, o_aload, o_istore, o_iinc, o_iadd, o_isub, o_imul, o_iand, o_ior, o_ixor, o_ishl, o_ishr, o_iushr, o_idiv, o_irem, o_ineg, o_dup, o_dup2, o_pop, o_if_eq, o_if_ne, o_if_lt, o_if_ge, o_if_gt, o_if_le, o_icmp_eq, o_icmp_ne, o_icmp_lt, o_icmp_ge, o_icmp_gt, o_icmp_le, o_nonnull, o_lsw2, o_iret, o_zret, o_vret, o_cV0, o_cV1, o_cV2, o_cV3, o_cV4, o_cV5, o_cV6, o_cS1, o_cS2, o_cS3, o_cS4, lg, lset, inB, pushv, c1, okr, at_, List.replicate, true_and, and_true, true_or, or_true, eq_self, forall_const, not_true_eq_false, not_false_eq_true, forall_eq, false_implies, true_implies,  List.length_nil, List.length_cons, Nat.zero_le, Nat.reduceAdd, Nat.reduceLeDiff, sh57k]
  refine r_pad (d := d + 16) hA hI (fun τ f1 _ _ => ?_)
  simp only [ia1, ia2, ia3, ia4, inn, inm, i10, i01, i0n, i1n, i0m, i1m, o_push, o_iload, o_aload, o_istore, o_iinc, o_iadd, o_isub, o_imul, o_iand, o_ior, o_ixor, o_ishl, o_ishr, o_iushr, o_idiv, o_irem, o_ineg, o_dup, o_dup2, o_pop, o_if_eq, o_if_ne, o_if_lt, o_if_ge, o_if_gt, o_if_le, o_icmp_eq, o_icmp_ne, o_icmp_lt, o_icmp_ge, o_icmp_gt, o_icmp_le, o_nonnull, o_lsw2, o_iret, o_zret, o_vret, o_cV0, o_cV1, o_cV2, o_cV3, o_cV4, o_cV5, o_cV6, o_cS1, o_cS2, o_cS3, o_cS4, lg, lset, inB, pushv, c1, okr, at_, List.replicate, true_and, and_true, true_or, or_true, eq_self, forall_const, not_true_eq_false, not_false_eq_true, forall_eq, false_implies, true_implies,  List.length_nil, List.length_cons, Nat.zero_le, Nat.reduceAdd, Nat.reduceLeDiff]
  exact h τ f1.m (hI.pfr f1)
theorem pd_k7 (hA : AOk A) : pdK A ≤ 7 := by
  have h7 := hA.1.2.2.2.2.1
  obtain ⟨-, -, g3, g4⟩ := pad_plan (sg := A.2.2.2.2.2) hA.1 A.2.2.2.2.1
  exact Nat.le_trans g4 (pc_7 _ (Nat.lt_of_lt_of_le g3 (p7 h7)))
theorem r_Xrow {w : Int32} (hA : AOk A) (hI : InvM σ A) (h : ∀ τ, MFr σ τ → InvM τ A → Q (some (.int (opRow A w))) τ) : E G MX5_row (d + 20) 0 [some (.ref 57), some (.int w)] [] σ Q := by
  obtain ⟨g1, g2, g3, g4⟩ := pad_plan (sg := A.2.2.2.2.2) hA.1 A.2.2.2.2.1
  apply kX5_row_0
  simp only [ia1, ia2, ia3, ia4, inn, inm, i10, i01, i0n, i1n, i0m, i1m, o_push, o_iload, o_aload, o_istore, o_iinc, o_iadd, o_isub, o_imul, o_iand, o_ior, o_ixor, o_ishl, o_ishr, o_iushr, o_idiv, o_irem, o_ineg, o_dup, o_dup2, o_pop, o_if_eq, o_if_ne, o_if_lt, o_if_ge, o_if_gt, o_if_le, o_icmp_eq, o_icmp_ne, o_icmp_lt, o_icmp_ge, o_icmp_gt, o_icmp_le, o_nonnull, o_lsw2, o_iret, o_zret, o_vret, o_cV0, o_cV1, o_cV2, o_cV3, o_cV4, o_cV5, o_cV6, o_cS1, o_cS2, o_cS3, o_cS4, lg, lset, inB, pushv, c1, okr, at_, List.replicate, true_and, and_true, true_or, or_true, eq_self, forall_const, not_true_eq_false, not_false_eq_true, forall_eq, false_implies, true_implies,  List.length_nil, List.length_cons, Nat.zero_le, Nat.reduceAdd, Nat.reduceLeDiff]
  refine r_in (fun q => ?_) (fun q => ?_)
  · obtain ⟨w', -, hw, rfl⟩ := inN (a := 0) (b := 4) (by omega) (by omega) (by rw [← n0, ← n4]; exact q)
    rw [opRow, if_neg (fun z => z q), fI_n (by omega)] at h
    simp only [ia1, ia2, ia3, ia4, inn, inm, i10, i01, i0n, i1n, i0m, i1m, o_push, o_iload, o_aload, o_istore, o_iinc, o_iadd, o_isub, o_imul, o_iand, o_ior, o_ixor, o_ishl, o_ishr, o_iushr, o_idiv, o_irem, o_ineg, o_dup, o_dup2, o_pop, o_if_eq, o_if_ne, o_if_lt, o_if_ge, o_if_gt, o_if_le, o_icmp_eq, o_icmp_ne, o_icmp_lt, o_icmp_ge, o_icmp_gt, o_icmp_le, o_nonnull, o_lsw2, o_iret, o_zret, o_vret, o_cV0, o_cV1, o_cV2, o_cV3, o_cV4, o_cV5, o_cV6, o_cS1, o_cS2, o_cS3, o_cS4, lg, lset, inB, pushv, c1, okr, at_, List.replicate, true_and, and_true, true_or, or_true, eq_self, forall_const, not_true_eq_false, not_false_eq_true, forall_eq, false_implies, true_implies,  List.length_nil, List.length_cons, Nat.zero_le, Nat.reduceAdd, Nat.reduceLeDiff, sh57k]
    refine r_pad (d := d + 16) hA hI (fun τ f1 h11 hM => ?_)
    simp only [ia1, ia2, ia3, ia4, inn, inm, i10, i01, i0n, i1n, i0m, i1m, o_push, o_iload, o_aload, o_istore, o_iinc, o_iadd, o_isub, o_imul, o_iand, o_ior, o_ixor, o_ishl, o_ishr, o_iushr, o_idiv, o_irem, o_ineg, o_dup, o_dup2, o_pop, o_if_eq, o_if_ne, o_if_lt, o_if_ge, o_if_gt, o_if_le, o_icmp_eq, o_icmp_ne, o_icmp_lt, o_icmp_ge, o_icmp_gt, o_icmp_le, o_nonnull, o_lsw2, o_iret, o_zret, o_vret, o_cV0, o_cV1, o_cV2, o_cV3, o_cV4, o_cV5, o_cV6, o_cS1, o_cS2, o_cS3, o_cS4, lg, lset, inB, pushv, c1, okr, at_, List.replicate, true_and, and_true, true_or, or_true, eq_self, forall_const, not_true_eq_false, not_false_eq_true, forall_eq, false_implies, true_implies,  List.length_nil, List.length_cons, Nat.zero_le, Nat.reduceAdd, Nat.reduceLeDiff, sh57k, orNone_lt (padFault_lt hA.2.1.1), gM11, h11]
    refine ⟨fun q2 => ?_, fun q2 => ?_⟩
    · rw [if_neg (fun z => z q2)] at h
      refine ⟨fun q3 => ?_, fun q3 => ?_⟩
      · rw [if_neg q3] at h
        have hw4 : w' < 4 := by
          rcases Nat.lt_or_ge w' 4 with z | z
          · exact z
          · exact absurd (by rw [n4]; congr 1; omega) q3
        refine r_measureOf (d := d + 16) hA.1 hw4 (pd_k7 hA) (hI.pfr f1).1 (hM q2) g1 (fun τ2 f3 => ?_)
        simp only [ia1, ia2, ia3, ia4, inn, inm, i10, i01, i0n, i1n, i0m, i1m, o_push, o_iload, o_aload, o_istore, o_iinc, o_iadd, o_isub, o_imul, o_iand, o_ior, o_ixor, o_ishl, o_ishr, o_iushr, o_idiv, o_irem, o_ineg, o_dup, o_dup2, o_pop, o_if_eq, o_if_ne, o_if_lt, o_if_ge, o_if_gt, o_if_le, o_icmp_eq, o_icmp_ne, o_icmp_lt, o_icmp_ge, o_icmp_gt, o_icmp_le, o_nonnull, o_lsw2, o_iret, o_zret, o_vret, o_cV0, o_cV1, o_cV2, o_cV3, o_cV4, o_cV5, o_cV6, o_cS1, o_cS2, o_cS3, o_cS4, lg, lset, inB, pushv, c1, okr, at_, List.replicate, true_and, and_true, true_or, or_true, eq_self, forall_const, not_true_eq_false, not_false_eq_true, forall_eq, false_implies, true_implies,  List.length_nil, List.length_cons, Nat.zero_le, Nat.reduceAdd, Nat.reduceLeDiff]
        have f13 : PFr σ τ2 := ⟨fun a z1 z2 z3 => by rw [f3 a z3]; exact f1.1 a z1 z2 z3, fun i z1 z2 z3 => by rw [f3 57 (by omega)]; exact f1.2 i z1 z2 z3⟩
        exact h τ2 f13.m (hI.pfr f13)
      · rw [if_pos q3, g2] at h
        exact h τ f1.m (hI.pfr f1)
    · rw [if_pos q2] at h
      exact h τ f1.m (hI.pfr f1)
  · rw [opRow, if_pos q] at h
    simp only [ia1, ia2, ia3, ia4, inn, inm, i10, i01, i0n, i1n, i0m, i1m, o_push, o_iload, o_aload, o_istore, o_iinc, o_iadd, o_isub, o_imul, o_iand, o_ior, o_ixor, o_ishl, o_ishr, o_iushr, o_idiv, o_irem, o_ineg, o_dup, o_dup2, o_pop, o_if_eq, o_if_ne, o_if_lt, o_if_ge, o_if_gt, o_if_le, o_icmp_eq, o_icmp_ne, o_icmp_lt, o_icmp_ge, o_icmp_gt, o_icmp_le, o_nonnull, o_lsw2, o_iret, o_zret, o_vret, o_cV0, o_cV1, o_cV2, o_cV3, o_cV4, o_cV5, o_cV6, o_cS1, o_cS2, o_cS3, o_cS4, lg, lset, inB, pushv, c1, okr, at_, List.replicate, true_and, and_true, true_or, or_true, eq_self, forall_const, not_true_eq_false, not_false_eq_true, forall_eq, false_implies, true_implies,  List.length_nil, List.length_cons, Nat.zero_le, Nat.reduceAdd, Nat.reduceLeDiff]
    exact h σ (fun _ _ => rfl) hI
theorem r_Xat {j : Int32} (hA : AOk A) (hI : InvM σ A) (h : ∀ τ, MFr σ τ → InvM τ A → Q (some (.int (opAt A j))) τ) : E G MX5_at (d + 20) 0 [some (.ref 57), some (.int j), none] [] σ Q := by
  have hn := hA.1.2.2.2.2.1
  obtain ⟨g1, g2, g3, g4⟩ := pad_plan (sg := A.2.2.2.2.2) hA.1 A.2.2.2.2.1
  have hk7 := pd_k7 hA
  apply kX5_at_0
  simp only [ia1, ia2, ia3, ia4, inn, inm, i10, i01, i0n, i1n, i0m, i1m, o_push, o_iload, o_aload, o_istore, o_iinc, o_iadd, o_isub, o_imul, o_iand, o_ior, o_ixor, o_ishl, o_ishr, o_iushr, o_idiv, o_irem, o_ineg, o_dup, o_dup2, o_pop, o_if_eq, o_if_ne, o_if_lt, o_if_ge, o_if_gt, o_if_le, o_icmp_eq, o_icmp_ne, o_icmp_lt, o_icmp_ge, o_icmp_gt, o_icmp_le, o_nonnull, o_lsw2, o_iret, o_zret, o_vret, o_cV0, o_cV1, o_cV2, o_cV3, o_cV4, o_cV5, o_cV6, o_cS1, o_cS2, o_cS3, o_cS4, lg, lset, inB, pushv, c1, okr, at_, List.replicate, true_and, and_true, true_or, or_true, eq_self, forall_const, not_true_eq_false, not_false_eq_true, forall_eq, false_implies, true_implies,  List.length_nil, List.length_cons, Nat.zero_le, Nat.reduceAdd, Nat.reduceLeDiff, sh57k]
  refine r_isJob hI.1 (fun q => ?_) (fun q => ?_)
  · obtain ⟨j', hj, rfl⟩ := inJ hn q
    rw [opAt, if_neg (fun z => z q), fI_n (by omega), eo_bo (pad_dj _)] at h
    simp only [ia1, ia2, ia3, ia4, inn, inm, i10, i01, i0n, i1n, i0m, i1m, o_push, o_iload, o_aload, o_istore, o_iinc, o_iadd, o_isub, o_imul, o_iand, o_ior, o_ixor, o_ishl, o_ishr, o_iushr, o_idiv, o_irem, o_ineg, o_dup, o_dup2, o_pop, o_if_eq, o_if_ne, o_if_lt, o_if_ge, o_if_gt, o_if_le, o_icmp_eq, o_icmp_ne, o_icmp_lt, o_icmp_ge, o_icmp_gt, o_icmp_le, o_nonnull, o_lsw2, o_iret, o_zret, o_vret, o_cV0, o_cV1, o_cV2, o_cV3, o_cV4, o_cV5, o_cV6, o_cS1, o_cS2, o_cS3, o_cS4, lg, lset, inB, pushv, c1, okr, at_, List.replicate, true_and, and_true, true_or, or_true, eq_self, forall_const, not_true_eq_false, not_false_eq_true, forall_eq, false_implies, true_implies,  List.length_nil, List.length_cons, Nat.zero_le, Nat.reduceAdd, Nat.reduceLeDiff, sh57k]
    refine r_pad (d := d + 16) hA hI (fun τ f1 h11 hM => ?_)
    simp only [ia1, ia2, ia3, ia4, inn, inm, i10, i01, i0n, i1n, i0m, i1m, o_push, o_iload, o_aload, o_istore, o_iinc, o_iadd, o_isub, o_imul, o_iand, o_ior, o_ixor, o_ishl, o_ishr, o_iushr, o_idiv, o_irem, o_ineg, o_dup, o_dup2, o_pop, o_if_eq, o_if_ne, o_if_lt, o_if_ge, o_if_gt, o_if_le, o_icmp_eq, o_icmp_ne, o_icmp_lt, o_icmp_ge, o_icmp_gt, o_icmp_le, o_nonnull, o_lsw2, o_iret, o_zret, o_vret, o_cV0, o_cV1, o_cV2, o_cV3, o_cV4, o_cV5, o_cV6, o_cS1, o_cS2, o_cS3, o_cS4, lg, lset, inB, pushv, c1, okr, at_, List.replicate, true_and, and_true, true_or, or_true, eq_self, forall_const, not_true_eq_false, not_false_eq_true, forall_eq, false_implies, true_implies,  List.length_nil, List.length_cons, Nat.zero_le, Nat.reduceAdd, Nat.reduceLeDiff, sh57k, orNone_lt (padFault_lt hA.2.1.1)]
    refine ⟨fun q2 => ?_, fun q2 => ?_⟩
    · rw [if_neg (fun z => z q2)] at h
      refine r_layEnds (d := d + 17) hA.1 (by omega) (hI.pfr f1).1 (hM q2) g1 (fun τ2 f3 he => ?_)
      have f13 : PFr σ τ2 := ⟨fun a z1 z2 z3 => by rw [f3 a z3]; exact f1.1 a z1 z2 z3, fun i z1 z2 z3 => by rw [f3 57 (by omega)]; exact f1.2 i z1 z2 z3⟩
      have hh := h τ2 f13.m (hI.pfr f13)
      simp only [ia1, ia2, ia3, ia4, inn, inm, i10, i01, i0n, i1n, i0m, i1m, o_push, o_iload, o_aload, o_istore, o_iinc, o_iadd, o_isub, o_imul, o_iand, o_ior, o_ixor, o_ishl, o_ishr, o_iushr, o_idiv, o_irem, o_ineg, o_dup, o_dup2, o_pop, o_if_eq, o_if_ne, o_if_lt, o_if_ge, o_if_gt, o_if_le, o_icmp_eq, o_icmp_ne, o_icmp_lt, o_icmp_ge, o_icmp_gt, o_icmp_le, o_nonnull, o_lsw2, o_iret, o_zret, o_vret, o_cV0, o_cV1, o_cV2, o_cV3, o_cV4, o_cV5, o_cV6, o_cS1, o_cS2, o_cS3, o_cS4, lg, lset, inB, pushv, c1, okr, at_, List.replicate, true_and, and_true, true_or, or_true, eq_self, forall_const, not_true_eq_false, not_false_eq_true, forall_eq, false_implies, true_implies,  List.length_nil, List.length_cons, Nat.zero_le, Nat.reduceAdd, Nat.reduceLeDiff, sh57k]
      refine r_batchOf (d := d + 18) (by omega) ((hM q2).fr (by rw [f3 57 (by omega)]) (f3 62 (by omega))) ?_
      have hle := boR_le (B := pdB A) (j := j') (pdK A)
      simp only [ia1, ia2, ia3, ia4, inn, inm, i10, i01, i0n, i1n, i0m, i1m, o_push, o_iload, o_aload, o_istore, o_iinc, o_iadd, o_isub, o_imul, o_iand, o_ior, o_ixor, o_ishl, o_ishr, o_iushr, o_idiv, o_irem, o_ineg, o_dup, o_dup2, o_pop, o_if_eq, o_if_ne, o_if_lt, o_if_ge, o_if_gt, o_if_le, o_icmp_eq, o_icmp_ne, o_icmp_lt, o_icmp_ge, o_icmp_gt, o_icmp_le, o_nonnull, o_lsw2, o_iret, o_zret, o_vret, o_cV0, o_cV1, o_cV2, o_cV3, o_cV4, o_cV5, o_cV6, o_cS1, o_cS2, o_cS3, o_cS4, lg, lset, inB, pushv, c1, okr, at_, List.replicate, true_and, and_true, true_or, or_true, eq_self, forall_const, not_true_eq_false, not_false_eq_true, forall_eq, false_implies, true_implies,  List.length_nil, List.length_cons, Nat.zero_le, Nat.reduceAdd, Nat.reduceLeDiff, gM7]
      by_cases hz : boR (pdB A) j' (pdK A) = 0
      · rw [if_pos hz] at hh ⊢
        exact ⟨fun z => absurd n6neg (Int32.not_lt.mpr z), fun _ => hh⟩
      · rw [if_neg hz] at hh ⊢
        refine ⟨fun _ => ?_, fun z => absurd (Int32.not_lt.mp (nI_pos (by omega))) z⟩
        simp (disch := omega) only [ia1, ia2, ia3, ia4, inn, inm, i10, i01, i0n, i1n, i0m, i1m, o_push, o_iload, o_aload, o_istore, o_iinc, o_iadd, o_isub, o_imul, o_iand, o_ior, o_ixor, o_ishl, o_ishr, o_iushr, o_idiv, o_irem, o_ineg, o_dup, o_dup2, o_pop, o_if_eq, o_if_ne, o_if_lt, o_if_ge, o_if_gt, o_if_le, o_icmp_eq, o_icmp_ne, o_icmp_lt, o_icmp_ge, o_icmp_gt, o_icmp_le, o_nonnull, o_lsw2, o_iret, o_zret, o_vret, o_cV0, o_cV1, o_cV2, o_cV3, o_cV4, o_cV5, o_cV6, o_cS1, o_cS2, o_cS3, o_cS4, lg, lset, inB, pushv, c1, okr, at_, List.replicate, true_and, and_true, true_or, or_true, eq_self, forall_const, not_true_eq_false, not_false_eq_true, forall_eq, false_implies, true_implies,  List.length_nil, List.length_cons, Nat.zero_le, Nat.reduceAdd, Nat.reduceLeDiff, ldI sh63, he]
        exact hh
    · rw [if_pos q2] at h
      exact h τ f1.m (hI.pfr f1)
  · rw [opAt, if_pos q] at h
    simp only [ia1, ia2, ia3, ia4, inn, inm, i10, i01, i0n, i1n, i0m, i1m, o_push, o_iload, o_aload, o_istore, o_iinc, o_iadd, o_isub, o_imul, o_iand, o_ior, o_ixor, o_ishl, o_ishr, o_iushr, o_idiv, o_irem, o_ineg, o_dup, o_dup2, o_pop, o_if_eq, o_if_ne, o_if_lt, o_if_ge, o_if_gt, o_if_le, o_icmp_eq, o_icmp_ne, o_icmp_lt, o_icmp_ge, o_icmp_gt, o_icmp_le, o_nonnull, o_lsw2, o_iret, o_zret, o_vret, o_cV0, o_cV1, o_cV2, o_cV3, o_cV4, o_cV5, o_cV6, o_cS1, o_cS2, o_cS3, o_cS4, lg, lset, inB, pushv, c1, okr, at_, List.replicate, true_and, and_true, true_or, or_true, eq_self, forall_const, not_true_eq_false, not_false_eq_true, forall_eq, false_implies, true_implies,  List.length_nil, List.length_cons, Nat.zero_le, Nat.reduceAdd, Nat.reduceLeDiff]
    exact h σ (fun _ _ => rfl) hI
theorem r_putAhead {b j : Nat} (hb : b ≤ k) (hk : k ≤ 13) (hj : j < 7) (hP : MPl σ k B) (h : ∀ τ, (∀ a, a ≠ 57 → a ≠ 62 → τ a = σ a) → (∀ i, i ≠ 6 → τ 57 i = σ 57 i) → MPl τ (k + 1) (insB B b (2 ^ j)) → Q none τ) : E G MX5_putAhead d 0 [some (.ref 57), some (.int (nI b)), some (.int (nI j)), none] [] σ Q := by
  have hp2 : 2 ^ j < 2 ^ 7 := pow_lt hj
  apply kX5_putAhead_0
  simp only [ia1, ia2, ia3, ia4, inn, inm, i10, i01, i0n, i1n, i0m, i1m, o_push, o_iload, o_aload, o_istore, o_iinc, o_iadd, o_isub, o_imul, o_iand, o_ior, o_ixor, o_ishl, o_ishr, o_iushr, o_idiv, o_irem, o_ineg, o_dup, o_dup2, o_pop, o_if_eq, o_if_ne, o_if_lt, o_if_ge, o_if_gt, o_if_le, o_icmp_eq, o_icmp_ne, o_icmp_lt, o_icmp_ge, o_icmp_gt, o_icmp_le, o_nonnull, o_lsw2, o_iret, o_zret, o_vret, o_cV0, o_cV1, o_cV2, o_cV3, o_cV4, o_cV5, o_cV6, o_cS1, o_cS2, o_cS3, o_cS4, lg, lset, inB, pushv, c1, okr, at_, List.replicate, true_and, and_true, true_or, or_true, eq_self, forall_const, not_true_eq_false, not_false_eq_true, forall_eq, false_implies, true_implies,  List.length_nil, List.length_cons, Nat.zero_le, Nat.reduceAdd, Nat.reduceLeDiff, gM6, hP.1]
  suffices H : ∀ r x (τ : Mem), x = b + r → x ≤ k → (∀ a, a ≠ 62 → τ a = σ a) → (∀ i, i < x → τ 62 i = nI (B i)) → (∀ i, x < i → i ≤ k → τ 62 i = nI (B (i - 1))) → E G MX5_putAhead d 5 [some (.ref 57), some (.int (nI b)), some (.int (nI j)), some (.int (nI x))] [] τ Q from
    H (k - b) k σ (by omega) (Nat.le_refl _) (fun _ _ => rfl) (fun i hi => hP.b i hi) (fun i h1 h2 => by omega)
  intro r
  induction r with
  | zero =>
    intro x τ hx hxk hfr hlo hhi
    obtain rfl : x = b := by omega
    have h6 : τ 57 6 = nI k := by rw [hfr 57 (by omega)]; exact hP.1
    apply kX5_putAhead_5
    simp (disch := omega) only [ia1, ia2, ia3, ia4, inn, inm, i10, i01, i0n, i1n, i0m, i1m, o_push, o_iload, o_aload, o_istore, o_iinc, o_iadd, o_isub, o_imul, o_iand, o_ior, o_ixor, o_ishl, o_ishr, o_iushr, o_idiv, o_irem, o_ineg, o_dup, o_dup2, o_pop, o_if_eq, o_if_ne, o_if_lt, o_if_ge, o_if_gt, o_if_le, o_icmp_eq, o_icmp_ne, o_icmp_lt, o_icmp_ge, o_icmp_gt, o_icmp_le, o_nonnull, o_lsw2, o_iret, o_zret, o_vret, o_cV0, o_cV1, o_cV2, o_cV3, o_cV4, o_cV5, o_cV6, o_cS1, o_cS2, o_cS3, o_cS4, lg, lset, inB, pushv, c1, okr, at_, List.replicate, true_and, and_true, true_or, or_true, eq_self, forall_const, not_true_eq_false, not_false_eq_true, forall_eq, false_implies, true_implies,  List.length_nil, List.length_cons, Nat.zero_le, Nat.reduceAdd, Nat.reduceLeDiff, nLe, Nat.le_refl, gM5, n1, shl1, stI sh62, gM6, wr_o, h6, nI_add, pM6]
    refine h _ (fun a z1 z2 => by rw [wr_o z1, wr_o z2]; exact hfr a z2) (fun i hi => by rw [wr_n (by omega), wr_o (by omega), hfr 57 (by omega)]) ⟨wr_s, by omega, fun i hi => ?_⟩
    rw [wr_o (by omega)]
    unfold insB
    by_cases h1 : i < x
    · rw [if_pos h1, wr_n (by omega)]; exact ⟨hlo i h1, (hP.2.2 i (by omega)).2⟩
    · rw [if_neg h1]
      by_cases h2 : i = x
      · rw [if_pos h2, h2, wr_s]; exact ⟨rfl, by omega⟩
      · rw [if_neg h2, wr_n (by omega)]; exact ⟨hhi i (by omega) (by omega), (hP.2.2 (i - 1) (by omega)).2⟩
  | succ r ih =>
    intro x τ hx hxk hfr hlo hhi
    have hr := hlo (x - 1) (by omega)
    apply kX5_putAhead_5
    simp (disch := omega) only [ia1, ia2, ia3, ia4, inn, inm, i10, i01, i0n, i1n, i0m, i1m, o_push, o_iload, o_aload, o_istore, o_iinc, o_iadd, o_isub, o_imul, o_iand, o_ior, o_ixor, o_ishl, o_ishr, o_iushr, o_idiv, o_irem, o_ineg, o_dup, o_dup2, o_pop, o_if_eq, o_if_ne, o_if_lt, o_if_ge, o_if_gt, o_if_le, o_icmp_eq, o_icmp_ne, o_icmp_lt, o_icmp_ge, o_icmp_gt, o_icmp_le, o_nonnull, o_lsw2, o_iret, o_zret, o_vret, o_cV0, o_cV1, o_cV2, o_cV3, o_cV4, o_cV5, o_cV6, o_cS1, o_cS2, o_cS3, o_cS4, lg, lset, inB, pushv, c1, okr, at_, List.replicate, true_and, and_true, true_or, or_true, eq_self, forall_const, not_true_eq_false, not_false_eq_true, forall_eq, false_implies, true_implies,  List.length_nil, List.length_cons, Nat.zero_le, Nat.reduceAdd, Nat.reduceLeDiff, nLe, gM5, n1, nSub, ldI sh62, stI sh62, hr, nDec1]
    refine ⟨fun q => absurd q (by omega), fun _ => ih (x - 1) _ (by omega) (by omega) (fun a ha => by rw [wr_o ha]; exact hfr a ha) (fun i hi => by rw [wr_n (by omega)]; exact hlo i (by omega)) (fun i h1 h2 => ?_)⟩
    by_cases hix : i = x
    · subst hix; rw [wr_s]
    · rw [wr_n (by omega)]; exact hhi i (by omega) h2
theorem r_putAt {j pl : Nat} (hA : AOk A) (hI : InvM σ A) (hnf : pdF A = none) (hj : j < A.1 9) (hk : pdK A < 7) (hpl : pl ≤ 2 * pdK A) (hno : ∀ x, x < pdK A → (pdB A x).testBit j = false)
    (h1 : okP A.1 (pdK A) (pdB A) j pl → ∀ τ, PFr σ τ → MPl τ (nK (pdK A) pl) (nB (pdB A) j pl) → Q (some (.int 1)) τ) (h0 : ¬ okP A.1 (pdK A) (pdB A) j pl → ∀ τ, PFr σ τ → Q (some (.int 0)) τ) :
    E G MX5_putAt (d + 4) 0 [some (.ref 57), some (.int (nI pl)), some (.int (nI j)), none, none] [] σ Q := by
  have hV := hA.1
  have h7 := hV.2.2.2.2.1
  have hr6 := hV.2.1
  have hp2 : 2 ^ j < 2 ^ 7 := pow_lt (by omega)
  obtain ⟨g1, g2, g3, g4⟩ := pad_plan (sg := A.2.2.2.2.2) hV A.2.2.2.2.1
  apply kX5_putAt_0
  simp only [ia1, ia2, ia3, ia4, inn, inm, i10, i01, i0n, i1n, i0m, i1m, o_push, o_iload, o_aload, o_istore, o_iinc, o_iadd, o_isub, o_imul, o_iand, o_ior, o_ixor, o_ishl, o_ishr, o_iushr, o_idiv, o_irem, o_ineg, o_dup, o_dup2, o_pop, o_if_eq, o_if_ne, o_if_lt, o_if_ge, o_if_gt, o_if_le, o_icmp_eq, o_icmp_ne, o_icmp_lt, o_icmp_ge, o_icmp_gt, o_icmp_le, o_nonnull, o_lsw2, o_iret, o_zret, o_vret, o_cV0, o_cV1, o_cV2, o_cV3, o_cV4, o_cV5, o_cV6, o_cS1, o_cS2, o_cS3, o_cS4, lg, lset, inB, pushv, c1, okr, at_, List.replicate, true_and, and_true, true_or, or_true, eq_self, forall_const, not_true_eq_false, not_false_eq_true, forall_eq, false_implies, true_implies,  List.length_nil, List.length_cons, Nat.zero_le, Nat.reduceAdd, Nat.reduceLeDiff, sh57k]
  refine r_pad (d := d) hA hI (fun τ f1 h11 hM => ?_)
  have hP := hM hnf
  have hRt := (hI.pfr f1).1
  simp (disch := omega) only [ia1, ia2, ia3, ia4, inn, inm, i10, i01, i0n, i1n, i0m, i1m, o_push, o_iload, o_aload, o_istore, o_iinc, o_iadd, o_isub, o_imul, o_iand, o_ior, o_ixor, o_ishl, o_ishr, o_iushr, o_idiv, o_irem, o_ineg, o_dup, o_dup2, o_pop, o_if_eq, o_if_ne, o_if_lt, o_if_ge, o_if_gt, o_if_le, o_icmp_eq, o_icmp_ne, o_icmp_lt, o_icmp_ge, o_icmp_gt, o_icmp_le, o_nonnull, o_lsw2, o_iret, o_zret, o_vret, o_cV0, o_cV1, o_cV2, o_cV3, o_cV4, o_cV5, o_cV6, o_cS1, o_cS2, o_cS3, o_cS4, lg, lset, inB, pushv, c1, okr, at_, List.replicate, true_and, and_true, true_or, or_true, eq_self, forall_const, not_true_eq_false, not_false_eq_true, forall_eq, false_implies, true_implies,  List.length_nil, List.length_cons, Nat.zero_le, Nat.reduceAdd, Nat.reduceLeDiff, n2, ndiv2]
  refine ⟨nI_ne0 (by omega) (by omega), nI_ne0 (by omega) (by omega), ?_⟩
  have hr : nI pl - nI (pl / 2) * nI 2 = nI (pl % 2) := by rw [← ndiv2 (by omega)]; exact nrem2 (by omega)
  rw [hr]
  simp (disch := omega) only [n0, nEq]
  refine ⟨fun q => ?_, fun q => ?_⟩
  · have hb := hP.2.2 (pl / 2) (by omega)
    have hok := g1 (pl / 2) (show pl / 2 < pdK A by omega)
    have hor : pdB A (pl / 2) ||| 2 ^ j < 2 ^ 7 := Nat.or_lt_two_pow (n := 7) hb.2 hp2
    have hiff := cs_iff hV (Or.inr hok) hj (hno _ (by omega))
    have hvl := sumS_le (f := fun j => A.1 (17 + j)) (c := 9) (pdB A (pl / 2) ||| 2 ^ j) (A.1 9) (fun j hj => (hV.2.2.2.2.2.1 j (by omega)).2.1)
    have hvl2 : volS A.1 (pdB A (pl / 2) ||| 2 ^ j) ≤ 63 := by unfold volS; omega
    simp (disch := omega) only [ia1, ia2, ia3, ia4, inn, inm, i10, i01, i0n, i1n, i0m, i1m, o_push, o_iload, o_aload, o_istore, o_iinc, o_iadd, o_isub, o_imul, o_iand, o_ior, o_ixor, o_ishl, o_ishr, o_iushr, o_idiv, o_irem, o_ineg, o_dup, o_dup2, o_pop, o_if_eq, o_if_ne, o_if_lt, o_if_ge, o_if_gt, o_if_le, o_icmp_eq, o_icmp_ne, o_icmp_lt, o_icmp_ge, o_icmp_gt, o_icmp_le, o_nonnull, o_lsw2, o_iret, o_zret, o_vret, o_cV0, o_cV1, o_cV2, o_cV3, o_cV4, o_cV5, o_cV6, o_cS1, o_cS2, o_cS3, o_cS4, lg, lset, inB, pushv, c1, okr, at_, List.replicate, true_and, and_true, true_or, or_true, eq_self, forall_const, not_true_eq_false, not_false_eq_true, forall_eq, false_implies, true_implies,  List.length_nil, List.length_cons, Nat.zero_le, Nat.reduceAdd, Nat.reduceLeDiff, gM5, ldI sh62, hb.1, n1, shl1, fa_or, stI sh62, sh57k]
    have f2 : PFr σ (wr τ 62 (pl / 2) (nI (pdB A (pl / 2) ||| 2 ^ j))) := ⟨fun a z1 z2 z3 => by rw [wr_o z2]; exact f1.1 a z1 z2 z3, fun i z1 z2 z3 => by rw [wr_o (by omega)]; exact f1.2 i z1 z2 z3⟩
    have hR2 := (hI.pfr f2).1
    have hnb : nB (pdB A) j pl = upN (pdB A) (pl / 2) (pdB A (pl / 2) ||| 2 ^ j) := by unfold nB; rw [if_neg q]
    have hnk : nK (pdK A) pl = pdK A := by unfold nK; rw [if_neg q]
    have hokp : okP A.1 (pdK A) (pdB A) j pl ↔ (unI A.1 (pdB A (pl / 2) ||| 2 ^ j) ∧ volS A.1 (pdB A (pl / 2) ||| 2 ^ j) ≤ A.1 6) := by
      rw [hiff]
      constructor
      · rintro (z | z)
        · exact absurd z q
        · exact Or.inr z.2
      · rintro (z | z)
        · exact absurd z hok.1
        · exact Or.inr ⟨by omega, z⟩
    refine r_familyOf (d := d + 2) (by omega) hV hR2 ?_
    simp only [ia1, ia2, ia3, ia4, inn, inm, i10, i01, i0n, i1n, i0m, i1m, o_push, o_iload, o_aload, o_istore, o_iinc, o_iadd, o_isub, o_imul, o_iand, o_ior, o_ixor, o_ishl, o_ishr, o_iushr, o_idiv, o_irem, o_ineg, o_dup, o_dup2, o_pop, o_if_eq, o_if_ne, o_if_lt, o_if_ge, o_if_gt, o_if_le, o_icmp_eq, o_icmp_ne, o_icmp_lt, o_icmp_ge, o_icmp_gt, o_icmp_le, o_nonnull, o_lsw2, o_iret, o_zret, o_vret, o_cV0, o_cV1, o_cV2, o_cV3, o_cV4, o_cV5, o_cV6, o_cS1, o_cS2, o_cS3, o_cS4, lg, lset, inB, pushv, c1, okr, at_, List.replicate, true_and, and_true, true_or, or_true, eq_self, forall_const, not_true_eq_false, not_false_eq_true, forall_eq, false_implies, true_implies,  List.length_nil, List.length_cons, Nat.zero_le, Nat.reduceAdd, Nat.reduceLeDiff, sh57k, fm_lt hV]
    refine ⟨fun z => h0 (fun w => z (hokp.mp w).1) _ f2, fun z => r_volumeOf (d := d + 2) (by omega) hV hR2 ?_⟩
    simp (disch := omega) only [ia1, ia2, ia3, ia4, inn, inm, i10, i01, i0n, i1n, i0m, i1m, o_push, o_iload, o_aload, o_istore, o_iinc, o_iadd, o_isub, o_imul, o_iand, o_ior, o_ixor, o_ishl, o_ishr, o_iushr, o_idiv, o_irem, o_ineg, o_dup, o_dup2, o_pop, o_if_eq, o_if_ne, o_if_lt, o_if_ge, o_if_gt, o_if_le, o_icmp_eq, o_icmp_ne, o_icmp_lt, o_icmp_ge, o_icmp_gt, o_icmp_le, o_nonnull, o_lsw2, o_iret, o_zret, o_vret, o_cV0, o_cV1, o_cV2, o_cV3, o_cV4, o_cV5, o_cV6, o_cS1, o_cS2, o_cS3, o_cS4, lg, lset, inB, pushv, c1, okr, at_, List.replicate, true_and, and_true, true_or, or_true, eq_self, forall_const, not_true_eq_false, not_false_eq_true, forall_eq, false_implies, true_implies,  List.length_nil, List.length_cons, Nat.zero_le, Nat.reduceAdd, Nat.reduceLeDiff, gM0, n6, ldI sh58, hR2 6 (by omega), nLt]
    refine ⟨fun z2 => h0 (fun w => by have := (hokp.mp w).2; omega) _ f2, fun z2 => h1 (hokp.mpr ⟨Classical.not_not.mp z, by omega⟩) _ f2 ?_⟩
    rw [hnb, hnk]
    refine ⟨by rw [wr_o (by omega)]; exact hP.1, by omega, fun i hi => ?_⟩
    unfold upN
    by_cases hip : i = pl / 2
    · rw [if_pos hip, hip, wr_s]; exact ⟨rfl, hor⟩
    · rw [if_neg hip, wr_n (by omega)]; exact hP.2.2 i hi
  · have hnb : nB (pdB A) j pl = insB (pdB A) (pl / 2) (2 ^ j) := by unfold nB; rw [if_pos q]
    have hnk : nK (pdK A) pl = pdK A + 1 := by unfold nK; rw [if_pos q]
    refine r_putAhead (b := pl / 2) (by omega) (by omega) (by omega) hP (fun τ2 f2 f3 hP2 => ?_)
    simp only [ia1, ia2, ia3, ia4, inn, inm, i10, i01, i0n, i1n, i0m, i1m, o_push, o_iload, o_aload, o_istore, o_iinc, o_iadd, o_isub, o_imul, o_iand, o_ior, o_ixor, o_ishl, o_ishr, o_iushr, o_idiv, o_irem, o_ineg, o_dup, o_dup2, o_pop, o_if_eq, o_if_ne, o_if_lt, o_if_ge, o_if_gt, o_if_le, o_icmp_eq, o_icmp_ne, o_icmp_lt, o_icmp_ge, o_icmp_gt, o_icmp_le, o_nonnull, o_lsw2, o_iret, o_zret, o_vret, o_cV0, o_cV1, o_cV2, o_cV3, o_cV4, o_cV5, o_cV6, o_cS1, o_cS2, o_cS3, o_cS4, lg, lset, inB, pushv, c1, okr, at_, List.replicate, true_and, and_true, true_or, or_true, eq_self, forall_const, not_true_eq_false, not_false_eq_true, forall_eq, false_implies, true_implies,  List.length_nil, List.length_cons, Nat.zero_le, Nat.reduceAdd, Nat.reduceLeDiff]
    refine h1 (Or.inl q) τ2 ⟨fun a z1 z2 z3 => by rw [f2 a z1 z2]; exact f1.1 a z1 z2 z3, fun i z1 z2 z3 => by rw [f3 i z1]; exact f1.2 i z1 z2 z3⟩ ?_
    rw [hnb, hnk]; exact hP2
theorem nB_ok (hV : VOk V) {j pl : Nat} (hj : j < V 9) (hpl : pl ≤ 2 * k) (hok : ∀ i, i < k → okB V (B i)) (hno : ∀ x, x < k → (B x).testBit j = false) (hp : okP V k B j pl) : ∀ i, i < nK k pl → okB V (nB B j pl i) := by
  intro i hi
  unfold nK at hi
  unfold nB
  by_cases q : pl % 2 = 0
  · rw [if_pos q] at hi ⊢
    unfold insB
    by_cases h1 : i < pl / 2
    · rw [if_pos h1]; exact hok i (by omega)
    · rw [if_neg h1]
      by_cases h2 : i = pl / 2
      · rw [if_pos h2]; exact okB_one hV hj
      · rw [if_neg h2]; exact hok (i - 1) (by omega)
  · rw [if_neg q] at hi ⊢
    unfold upN
    by_cases h1 : i = pl / 2
    · rw [if_pos h1]
      rcases hp with z | z
      · exact absurd z q
      · exact okB_add hV hj (hno _ z.1) (Or.inr (hok _ z.1)) (Or.inr z.2)
    · rw [if_neg h1]; exact hok i hi
theorem putR_1 (hV : VOk V) (hk : k < 7) {j : Nat} : ∀ pl, (putR V k B j (pl + 1)).1 ≤ 20000
  | 0 => by
    have hms := msR_bd (m := 1) (V := V) (B := nB B j 0) hV (k := nK k 0) (by unfold nK; split <;> omega)
    rw [putR, if_pos ⟨Or.inl rfl, by unfold putR; omega⟩]; exact hms
  | pl + 1 => by
    have ih := putR_1 hV hk (j := j) pl
    rw [putR]
    split
    · rename_i q
      exact Nat.le_trans (Nat.le_of_lt q.2) ih
    · exact ih
theorem r_Xput {j w : Int32} (hA : AOk A) (hI : InvM σ A) (h : ∀ τ, MFr σ τ → InvM τ A → Q (some (.int (opPut A j w))) τ) : E G MX5_put (d + 20) 0 [some (.ref 57), some (.int j), some (.int w), none, none, none, none, none] [] σ Q := by
  have hV := hA.1
  have hn := hV.2.2.2.2.1
  obtain ⟨g1, g2, g3, g4⟩ := pad_plan (sg := A.2.2.2.2.2) hV A.2.2.2.2.1
  apply kX5_put_0
  simp only [ia1, ia2, ia3, ia4, inn, inm, i10, i01, i0n, i1n, i0m, i1m, o_push, o_iload, o_aload, o_istore, o_iinc, o_iadd, o_isub, o_imul, o_iand, o_ior, o_ixor, o_ishl, o_ishr, o_iushr, o_idiv, o_irem, o_ineg, o_dup, o_dup2, o_pop, o_if_eq, o_if_ne, o_if_lt, o_if_ge, o_if_gt, o_if_le, o_icmp_eq, o_icmp_ne, o_icmp_lt, o_icmp_ge, o_icmp_gt, o_icmp_le, o_nonnull, o_lsw2, o_iret, o_zret, o_vret, o_cV0, o_cV1, o_cV2, o_cV3, o_cV4, o_cV5, o_cV6, o_cS1, o_cS2, o_cS3, o_cS4, lg, lset, inB, pushv, c1, okr, at_, List.replicate, true_and, and_true, true_or, or_true, eq_self, forall_const, not_true_eq_false, not_false_eq_true, forall_eq, false_implies, true_implies,  List.length_nil, List.length_cons, Nat.zero_le, Nat.reduceAdd, Nat.reduceLeDiff, sh57k]
  refine r_isJob hI.1 (fun q => ?_) (fun q => ?_)
  · simp only [ia1, ia2, ia3, ia4, inn, inm, i10, i01, i0n, i1n, i0m, i1m, o_push, o_iload, o_aload, o_istore, o_iinc, o_iadd, o_isub, o_imul, o_iand, o_ior, o_ixor, o_ishl, o_ishr, o_iushr, o_idiv, o_irem, o_ineg, o_dup, o_dup2, o_pop, o_if_eq, o_if_ne, o_if_lt, o_if_ge, o_if_gt, o_if_le, o_icmp_eq, o_icmp_ne, o_icmp_lt, o_icmp_ge, o_icmp_gt, o_icmp_le, o_nonnull, o_lsw2, o_iret, o_zret, o_vret, o_cV0, o_cV1, o_cV2, o_cV3, o_cV4, o_cV5, o_cV6, o_cS1, o_cS2, o_cS3, o_cS4, lg, lset, inB, pushv, c1, okr, at_, List.replicate, true_and, and_true, true_or, or_true, eq_self, forall_const, not_true_eq_false, not_false_eq_true, forall_eq, false_implies, true_implies,  List.length_nil, List.length_cons, Nat.zero_le, Nat.reduceAdd, Nat.reduceLeDiff]
    refine r_in (fun q1 => ?_) (fun q1 => ?_)
    · obtain ⟨j', hj, rfl⟩ := inJ hn q
      obtain ⟨w', -, hw, rfl⟩ := inN (a := 0) (b := 1) (by omega) (by omega) (by rw [← n0, ← n1]; exact q1)
      rw [opPut, if_neg (fun z => z q), if_neg (fun z => z q1), fI_n (by omega)] at h
      simp only [ia1, ia2, ia3, ia4, inn, inm, i10, i01, i0n, i1n, i0m, i1m, o_push, o_iload, o_aload, o_istore, o_iinc, o_iadd, o_isub, o_imul, o_iand, o_ior, o_ixor, o_ishl, o_ishr, o_iushr, o_idiv, o_irem, o_ineg, o_dup, o_dup2, o_pop, o_if_eq, o_if_ne, o_if_lt, o_if_ge, o_if_gt, o_if_le, o_icmp_eq, o_icmp_ne, o_icmp_lt, o_icmp_ge, o_icmp_gt, o_icmp_le, o_nonnull, o_lsw2, o_iret, o_zret, o_vret, o_cV0, o_cV1, o_cV2, o_cV3, o_cV4, o_cV5, o_cV6, o_cS1, o_cS2, o_cS3, o_cS4, lg, lset, inB, pushv, c1, okr, at_, List.replicate, true_and, and_true, true_or, or_true, eq_self, forall_const, not_true_eq_false, not_false_eq_true, forall_eq, false_implies, true_implies,  List.length_nil, List.length_cons, Nat.zero_le, Nat.reduceAdd, Nat.reduceLeDiff, sh57k]
      refine r_pad (d := d + 16) hA hI (fun τ f1 h11 hM => ?_)
      simp only [ia1, ia2, ia3, ia4, inn, inm, i10, i01, i0n, i1n, i0m, i1m, o_push, o_iload, o_aload, o_istore, o_iinc, o_iadd, o_isub, o_imul, o_iand, o_ior, o_ixor, o_ishl, o_ishr, o_iushr, o_idiv, o_irem, o_ineg, o_dup, o_dup2, o_pop, o_if_eq, o_if_ne, o_if_lt, o_if_ge, o_if_gt, o_if_le, o_icmp_eq, o_icmp_ne, o_icmp_lt, o_icmp_ge, o_icmp_gt, o_icmp_le, o_nonnull, o_lsw2, o_iret, o_zret, o_vret, o_cV0, o_cV1, o_cV2, o_cV3, o_cV4, o_cV5, o_cV6, o_cS1, o_cS2, o_cS3, o_cS4, lg, lset, inB, pushv, c1, okr, at_, List.replicate, true_and, and_true, true_or, or_true, eq_self, forall_const, not_true_eq_false, not_false_eq_true, forall_eq, false_implies, true_implies,  List.length_nil, List.length_cons, Nat.zero_le, Nat.reduceAdd, Nat.reduceLeDiff, sh57k, orNone_lt (padFault_lt hA.2.1.1), gM11, h11]
      refine ⟨fun q2 => ?_, fun q2 => ?_⟩
      · rw [if_neg (fun z => z q2)] at h
        have ht7 : (padX A.1 A.2.2.2.2.1 A.2.2.2.2.2).2.1 < 128 := Nat.lt_of_lt_of_le g3 (p7 hn)
        refine r_has (by omega) (by omega) (fun hb => ?_) (fun hb => ?_)
        · rw [if_pos (by rw [g2]; exact hb)] at h
          simp only [ia1, ia2, ia3, ia4, inn, inm, i10, i01, i0n, i1n, i0m, i1m, o_push, o_iload, o_aload, o_istore, o_iinc, o_iadd, o_isub, o_imul, o_iand, o_ior, o_ixor, o_ishl, o_ishr, o_iushr, o_idiv, o_irem, o_ineg, o_dup, o_dup2, o_pop, o_if_eq, o_if_ne, o_if_lt, o_if_ge, o_if_gt, o_if_le, o_icmp_eq, o_icmp_ne, o_icmp_lt, o_icmp_ge, o_icmp_gt, o_icmp_le, o_nonnull, o_lsw2, o_iret, o_zret, o_vret, o_cV0, o_cV1, o_cV2, o_cV3, o_cV4, o_cV5, o_cV6, o_cS1, o_cS2, o_cS3, o_cS4, lg, lset, inB, pushv, c1, okr, at_, List.replicate, true_and, and_true, true_or, or_true, eq_self, forall_const, not_true_eq_false, not_false_eq_true, forall_eq, false_implies, true_implies,  List.length_nil, List.length_cons, Nat.zero_le, Nat.reduceAdd, Nat.reduceLeDiff]
          exact h τ f1.m (hI.pfr f1)
        · rw [if_neg (by rw [g2, hb]; simp)] at h
          have hk7 : pdK A < 7 := pad_room hV hj hb
          have hno : ∀ x, x < pdK A → (pdB A x).testBit j' = false := by
            intro x hx
            cases hbx : (pdB A x).testBit j'
            · rfl
            · have := orR_bit hbx _ hx
              rw [g2, hb] at this; cases this
          simp (disch := omega) only [ia1, ia2, ia3, ia4, inn, inm, i10, i01, i0n, i1n, i0m, i1m, o_push, o_iload, o_aload, o_istore, o_iinc, o_iadd, o_isub, o_imul, o_iand, o_ior, o_ixor, o_ishl, o_ishr, o_iushr, o_idiv, o_irem, o_ineg, o_dup, o_dup2, o_pop, o_if_eq, o_if_ne, o_if_lt, o_if_ge, o_if_gt, o_if_le, o_icmp_eq, o_icmp_ne, o_icmp_lt, o_icmp_ge, o_icmp_gt, o_icmp_le, o_nonnull, o_lsw2, o_iret, o_zret, o_vret, o_cV0, o_cV1, o_cV2, o_cV3, o_cV4, o_cV5, o_cV6, o_cS1, o_cS2, o_cS3, o_cS4, lg, lset, inB, pushv, c1, okr, at_, List.replicate, true_and, and_true, true_or, or_true, eq_self, forall_const, not_true_eq_false, not_false_eq_true, forall_eq, false_implies, true_implies,  List.length_nil, List.length_cons, Nat.zero_le, Nat.reduceAdd, Nat.reduceLeDiff, gM6, (hM q2).1, n2, pk_mul, n1, nI_add]
          suffices H : ∀ r pl (τ : Mem) (x4 x5 : Int32) (x7 : Option Value), r + pl = 2 * pdK A + 1 → (pl = 0 → x4 = -6) → (pl ≠ 0 → x4 = nI (putR A.1 (pdK A) (pdB A) j' pl).2 ∧ x5 = nI (putR A.1 (pdK A) (pdB A) j' pl).1) → PFr σ τ →
              E G MX5_put (d + 20) 65 [some (.ref 57), some (.int (nI j')), some (.int (nI w')), some (.int (nI (2 * pdK A + 1))), some (.int x4), some (.int x5), some (.int (nI pl)), x7] [] τ Q by
            have := H (2 * pdK A + 1) 0 τ (-6) 0 none (by omega) (fun _ => rfl) (fun z => absurd rfl z) f1
            rw [← n0] at this
            exact this
          intro r
          induction r with
          | zero =>
            intro pl τ x4 x5 x7 hr hz hnz hf
            obtain rfl : pl = 2 * pdK A + 1 := by omega
            obtain ⟨e4, e5⟩ := hnz (by omega)
            have hh := h τ hf.m (hI.pfr hf)
            apply kX5_put_65
            simp (disch := omega) only [ia1, ia2, ia3, ia4, inn, inm, i10, i01, i0n, i1n, i0m, i1m, o_push, o_iload, o_aload, o_istore, o_iinc, o_iadd, o_isub, o_imul, o_iand, o_ior, o_ixor, o_ishl, o_ishr, o_iushr, o_idiv, o_irem, o_ineg, o_dup, o_dup2, o_pop, o_if_eq, o_if_ne, o_if_lt, o_if_ge, o_if_gt, o_if_le, o_icmp_eq, o_icmp_ne, o_icmp_lt, o_icmp_ge, o_icmp_gt, o_icmp_le, o_nonnull, o_lsw2, o_iret, o_zret, o_vret, o_cV0, o_cV1, o_cV2, o_cV3, o_cV4, o_cV5, o_cV6, o_cS1, o_cS2, o_cS3, o_cS4, lg, lset, inB, pushv, c1, okr, at_, List.replicate, true_and, and_true, true_or, or_true, eq_self, forall_const, not_true_eq_false, not_false_eq_true, forall_eq, false_implies, true_implies,  List.length_nil, List.length_cons, Nat.zero_le, Nat.reduceAdd, Nat.reduceLeDiff, nLe, Nat.le_refl]
            refine ⟨fun z => ?_, fun z => ?_⟩
            · rw [if_neg z] at hh; rw [e4]; exact hh
            · rw [if_pos z] at hh; rw [e5]; exact hh
          | succ r ih =>
            intro pl τ x4 x5 x7 hr hz hnz hf
            have hIt := hI.pfr hf
            have hms := msR_bd (m := 1) (V := A.1) (B := nB (pdB A) j' pl) hV (k := nK (pdK A) pl) (by unfold nK; split <;> omega)
            apply kX5_put_65
            simp (disch := omega) only [ia1, ia2, ia3, ia4, inn, inm, i10, i01, i0n, i1n, i0m, i1m, o_push, o_iload, o_aload, o_istore, o_iinc, o_iadd, o_isub, o_imul, o_iand, o_ior, o_ixor, o_ishl, o_ishr, o_iushr, o_idiv, o_irem, o_ineg, o_dup, o_dup2, o_pop, o_if_eq, o_if_ne, o_if_lt, o_if_ge, o_if_gt, o_if_le, o_icmp_eq, o_icmp_ne, o_icmp_lt, o_icmp_ge, o_icmp_gt, o_icmp_le, o_nonnull, o_lsw2, o_iret, o_zret, o_vret, o_cV0, o_cV1, o_cV2, o_cV3, o_cV4, o_cV5, o_cV6, o_cS1, o_cS2, o_cS3, o_cS4, lg, lset, inB, pushv, c1, okr, at_, List.replicate, true_and, and_true, true_or, or_true, eq_self, forall_const, not_true_eq_false, not_false_eq_true, forall_eq, false_implies, true_implies,  List.length_nil, List.length_cons, Nat.zero_le, Nat.reduceAdd, Nat.reduceLeDiff, nLe, sh57k]
            refine ⟨fun z => absurd z (by omega), fun _ => ?_⟩
            have tr : ∀ τ2, PFr τ τ2 → PFr σ τ2 := fun τ2 g => ⟨fun a z1 z2 z3 => by rw [g.1 a z1 z2 z3]; exact hf.1 a z1 z2 z3, fun i z1 z2 z3 => by rw [g.2 i z1 z2 z3]; exact hf.2 i z1 z2 z3⟩
            refine r_putAt (d := d + 15) hA hIt q2 hj hk7 (by omega) hno (fun hok τ2 f2 hP2 => ?_) (fun hok τ2 f2 => ?_)
            · have hI2 := hIt.pfr f2
              simp only [ia1, ia2, ia3, ia4, inn, inm, i10, i01, i0n, i1n, i0m, i1m, o_push, o_iload, o_aload, o_istore, o_iinc, o_iadd, o_isub, o_imul, o_iand, o_ior, o_ixor, o_ishl, o_ishr, o_iushr, o_idiv, o_irem, o_ineg, o_dup, o_dup2, o_pop, o_if_eq, o_if_ne, o_if_lt, o_if_ge, o_if_gt, o_if_le, o_icmp_eq, o_icmp_ne, o_icmp_lt, o_icmp_ge, o_icmp_gt, o_icmp_le, o_nonnull, o_lsw2, o_iret, o_zret, o_vret, o_cV0, o_cV1, o_cV2, o_cV3, o_cV4, o_cV5, o_cV6, o_cS1, o_cS2, o_cS3, o_cS4, lg, lset, inB, pushv, c1, okr, at_, List.replicate, true_and, and_true, true_or, or_true, eq_self, forall_const, not_true_eq_false, not_false_eq_true, forall_eq, false_implies, true_implies,  List.length_nil, List.length_cons, Nat.zero_le, Nat.reduceAdd, Nat.reduceLeDiff, sh57k, n1]
              refine r_measureOf (d := d + 16) (m := 1) hV (by omega) (by unfold nK; split <;> omega) hI2.1 hP2 (nB_ok hV hj (by omega) g1 hno hok) (fun τ3 f3 => ?_)
              rw [show meas 1 A.1 (nK (pdK A) pl) (nB (pdB A) j' pl) = msR 1 A.1 (nB (pdB A) j' pl) (nK (pdK A) pl) from rfl]
              have f23 : PFr σ τ3 := tr _ ⟨fun a z1 z2 z3 => by rw [f3 a z3]; exact f2.1 a z1 z2 z3, fun i z1 z2 z3 => by rw [f3 57 (by omega)]; exact f2.2 i z1 z2 z3⟩
              have take : (pl ≠ 0 → msR 1 A.1 (nB (pdB A) j' pl) (nK (pdK A) pl) < (putR A.1 (pdK A) (pdB A) j' pl).1) → ∀ y, E G MX5_put (d + 20) 65 [some (.ref 57), some (.int (nI j')), some (.int (nI w')), some (.int (nI (2 * pdK A + 1))), some (.int (nI pl)), some (.int (nI (msR 1 A.1 (nB (pdB A) j' pl) (nK (pdK A) pl)))), some (.int (nI (pl + 1))), y] [] τ3 Q := by
                intro hlt y
                refine ih (pl + 1) τ3 _ _ _ (by omega) (fun z => by omega) (fun _ => ?_) f23
                have hlt2 : msR 1 A.1 (nB (pdB A) j' pl) (nK (pdK A) pl) < (putR A.1 (pdK A) (pdB A) j' pl).1 := by
                  by_cases z : pl = 0
                  · subst z; unfold putR; omega
                  · exact hlt z
                rw [putR, if_pos ⟨hok, hlt2⟩]
                exact ⟨rfl, rfl⟩
              simp only [ia1, ia2, ia3, ia4, inn, inm, i10, i01, i0n, i1n, i0m, i1m, o_push, o_iload, o_aload, o_istore, o_iinc, o_iadd, o_isub, o_imul, o_iand, o_ior, o_ixor, o_ishl, o_ishr, o_iushr, o_idiv, o_irem, o_ineg, o_dup, o_dup2, o_pop, o_if_eq, o_if_ne, o_if_lt, o_if_ge, o_if_gt, o_if_le, o_icmp_eq, o_icmp_ne, o_icmp_lt, o_icmp_ge, o_icmp_gt, o_icmp_le, o_nonnull, o_lsw2, o_iret, o_zret, o_vret, o_cV0, o_cV1, o_cV2, o_cV3, o_cV4, o_cV5, o_cV6, o_cS1, o_cS2, o_cS3, o_cS4, lg, lset, inB, pushv, c1, okr, at_, List.replicate, true_and, and_true, true_or, or_true, eq_self, forall_const, not_true_eq_false, not_false_eq_true, forall_eq, false_implies, true_implies,  List.length_nil, List.length_cons, Nat.zero_le, Nat.reduceAdd, Nat.reduceLeDiff, n1, nI_add]
              by_cases hp0 : pl = 0
              · rw [hz hp0]
                exact ⟨fun _ => take (fun z => absurd hp0 z) _, fun z => absurd n6neg z⟩
              · obtain ⟨e4, e5⟩ := hnz hp0
                have hpl2 := (putR_lt (V := A.1) (k := pdK A) (B := pdB A) (j := j') pl).2
                have hpl1 : (putR A.1 (pdK A) (pdB A) j' pl).1 ≤ 20000 := by
                  have := putR_1 (B := pdB A) hV hk7 (j := j') (pl - 1)
                  rw [Nat.sub_add_cancel (by omega)] at this
                  exact this
                refine ⟨fun z => ?_, fun _ => ?_⟩
                · rw [e4] at z; exact absurd z (nI_pos (by omega))
                · rw [e5, nLe (by omega) (by omega)]
                  refine ⟨fun z => ?_, fun z => take (fun _ => by omega) _⟩
                  refine ih (pl + 1) τ3 _ _ _ (by omega) (fun z => by omega) (fun _ => ?_) f23
                  rw [putR, if_neg (fun w => by have := w.2; omega)]
                  exact ⟨e4, rfl⟩
            · simp only [ia1, ia2, ia3, ia4, inn, inm, i10, i01, i0n, i1n, i0m, i1m, o_push, o_iload, o_aload, o_istore, o_iinc, o_iadd, o_isub, o_imul, o_iand, o_ior, o_ixor, o_ishl, o_ishr, o_iushr, o_idiv, o_irem, o_ineg, o_dup, o_dup2, o_pop, o_if_eq, o_if_ne, o_if_lt, o_if_ge, o_if_gt, o_if_le, o_icmp_eq, o_icmp_ne, o_icmp_lt, o_icmp_ge, o_icmp_gt, o_icmp_le, o_nonnull, o_lsw2, o_iret, o_zret, o_vret, o_cV0, o_cV1, o_cV2, o_cV3, o_cV4, o_cV5, o_cV6, o_cS1, o_cS2, o_cS3, o_cS4, lg, lset, inB, pushv, c1, okr, at_, List.replicate, true_and, and_true, true_or, or_true, eq_self, forall_const, not_true_eq_false, not_false_eq_true, forall_eq, false_implies, true_implies,  List.length_nil, List.length_cons, Nat.zero_le, Nat.reduceAdd, Nat.reduceLeDiff, n1, nI_add]
              refine ih (pl + 1) τ2 _ _ _ (by omega) (fun z => by omega) (fun _ => ?_) (tr _ f2)
              rw [putR, if_neg (fun z => hok z.1)]
              refine hnz (fun z => hok (Or.inl ?_))
              rw [z]
      · rw [if_pos q2] at h
        exact h τ f1.m (hI.pfr f1)
    · rw [opPut, if_neg (fun z => z q), if_pos q1] at h
      simp only [ia1, ia2, ia3, ia4, inn, inm, i10, i01, i0n, i1n, i0m, i1m, o_push, o_iload, o_aload, o_istore, o_iinc, o_iadd, o_isub, o_imul, o_iand, o_ior, o_ixor, o_ishl, o_ishr, o_iushr, o_idiv, o_irem, o_ineg, o_dup, o_dup2, o_pop, o_if_eq, o_if_ne, o_if_lt, o_if_ge, o_if_gt, o_if_le, o_icmp_eq, o_icmp_ne, o_icmp_lt, o_icmp_ge, o_icmp_gt, o_icmp_le, o_nonnull, o_lsw2, o_iret, o_zret, o_vret, o_cV0, o_cV1, o_cV2, o_cV3, o_cV4, o_cV5, o_cV6, o_cS1, o_cS2, o_cS3, o_cS4, lg, lset, inB, pushv, c1, okr, at_, List.replicate, true_and, and_true, true_or, or_true, eq_self, forall_const, not_true_eq_false, not_false_eq_true, forall_eq, false_implies, true_implies,  List.length_nil, List.length_cons, Nat.zero_le, Nat.reduceAdd, Nat.reduceLeDiff]
      exact h σ (fun _ _ => rfl) hI
  · rw [opPut, if_pos q] at h
    simp only [ia1, ia2, ia3, ia4, inn, inm, i10, i01, i0n, i1n, i0m, i1m, o_push, o_iload, o_aload, o_istore, o_iinc, o_iadd, o_isub, o_imul, o_iand, o_ior, o_ixor, o_ishl, o_ishr, o_iushr, o_idiv, o_irem, o_ineg, o_dup, o_dup2, o_pop, o_if_eq, o_if_ne, o_if_lt, o_if_ge, o_if_gt, o_if_le, o_icmp_eq, o_icmp_ne, o_icmp_lt, o_icmp_ge, o_icmp_gt, o_icmp_le, o_nonnull, o_lsw2, o_iret, o_zret, o_vret, o_cV0, o_cV1, o_cV2, o_cV3, o_cV4, o_cV5, o_cV6, o_cS1, o_cS2, o_cS3, o_cS4, lg, lset, inB, pushv, c1, okr, at_, List.replicate, true_and, and_true, true_or, or_true, eq_self, forall_const, not_true_eq_false, not_false_eq_true, forall_eq, false_implies, true_implies,  List.length_nil, List.length_cons, Nat.zero_le, Nat.reduceAdd, Nat.reduceLeDiff]
    exact h σ (fun _ _ => rfl) hI
end PUTM
