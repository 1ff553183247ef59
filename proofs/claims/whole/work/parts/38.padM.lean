/-! rule, ruled; the pad of the reference -/
theorem orR_bit {B : Nat → Nat} {x j : Nat} (hb : (B x).testBit j = true) : ∀ k, x < k → (orR B k).testBit j = true
  | 0, h => by omega
  | k + 1, h => by
    rw [orR, Nat.testBit_or]
    by_cases hxk : x = k
    · subst hxk; rw [hb]; simp
    · rw [orR_bit hb k (by omega)]; rfl
theorem padF_dj {V sg : Nat → Nat} : ∀ r i t c k (B : Nat → Nat), orR B k ||| c = t → DJ B k → (∀ x j, x < k → (B x).testBit j = true → c.testBit j = false) →
    DJ (padF V sg r i t c k B).2.2.2.2 (padF V sg r i t c k B).2.2.2.1 ∧ ∀ x j, x < (padF V sg r i t c k B).2.2.2.1 → ((padF V sg r i t c k B).2.2.2.2 x).testBit j = true → (padF V sg r i t c k B).2.2.1.testBit j = false
  | 0, _, _, _, _, _, _, h2, h3 => ⟨h2, h3⟩
  | r + 1, i, t, c, k, B, h1, h2, h3 => by
    unfold padF
    split
    · split
      · exact ⟨h2, h3⟩
      · refine padF_dj r _ _ _ _ _ ?_ (fun a b j hab hbk ha => ?_) (fun x j hx hb => Nat.zero_testBit j)
        · rw [orR, orR_congr (B' := B) k (fun i hi => by simp [upN]; omega), Nat.or_zero]
          simp [upN, h1]
        · unfold upN at ha ⊢
          rw [if_neg (by omega)] at ha
          by_cases hbk2 : b = k
          · rw [if_pos hbk2]; exact h3 a j (by omega) ha
          · rw [if_neg hbk2]; exact h2 a b j hab (by omega) ha
    · split
      · rename_i hst
        refine padF_dj r _ _ _ _ _ (by rw [← Nat.or_assoc, h1]) h2 (fun x j hx hb => ?_)
        rw [tb_or1, h3 x j hx hb]
        have hne : ¬ sg i - 48 = j := by
          intro z
          have h4 := hst.2.2.1
          rw [← h1, Nat.testBit_or, z, orR_bit hb k hx] at h4
          simp at h4
        simp [hne]
      · exact ⟨h2, h3⟩
theorem pad_dj {V sg : Nat → Nat} (len : Nat) : DJ (padB V len sg) (padK V len sg) := by
  obtain ⟨h2, h3⟩ := padF_dj (V := V) (sg := sg) len 0 0 0 0 (fun _ => 0) rfl (fun a b j _ hb => by omega) (fun x j hx => by omega)
  unfold padB padK
  rw [show padF V sg len 0 0 0 0 (fun _ => 0) = padX V len sg from rfl] at h2 h3
  generalize padX V len sg = X at *
  by_cases hc : X.2.2.1 = 0
  · rw [if_pos hc, if_pos hc]; exact h2
  · rw [if_neg hc, if_neg hc]
    intro a b j hab hbk ha
    unfold upN at ha ⊢
    rw [if_neg (by omega)] at ha
    by_cases hbk2 : b = X.2.2.2.1
    · rw [if_pos hbk2]; exact h3 a j (by omega) ha
    · rw [if_neg hbk2]; exact h2 a b j hab (by omega) ha
theorem cs_iff {V : Nat → Nat} (hV : VOk V) {c j : Nat} (hc : c = 0 ∨ okB V c) (hj : j < V 9) (hb : c.testBit j = false) : (unI V (c ||| 2 ^ j) ∧ volS V (c ||| 2 ^ j) ≤ V 6) ↔ (c = 0 ∨ (V (10 + j) = famS V c ∧ volS V c + V (17 + j) ≤ V 6)) := by
  constructor
  · rintro ⟨h1, h2⟩
    rcases hc with rfl | hc
    · exact Or.inl rfl
    · refine Or.inr ⟨?_, ?_⟩
      · obtain ⟨i, hi, hib⟩ := some_bit hV hc.1 hc.2.1
        have e1 := h1.2 j hj (by rw [tb_or1]; simp)
        have e2 := h1.2 i hi (by rw [tb_or1, hib]; simp)
        have e3 := hc.2.2.1 i hi hib
        omega
      · have : volS V (c ||| 2 ^ j) = volS V c + V (17 + j) := by unfold volS; rw [sumS_add hb, if_pos hj]
        omega
  · intro h
    have := okB_add hV hj hb hc h
    exact ⟨⟨famS_lt hV this.1 this.2.1, this.2.2.1⟩, this.2.2.2⟩
theorem neg48 {s : Nat} (h : s < 48) : ¬ (0 : Int32) ≤ nI s - nI 48 := by
  rw [Int32.le_iff_toInt_le, pk_sub_toInt (by omega) (by omega)]
  have : (0 : Int32).toInt = 0 := by decide
  omega
theorem fm_lt {V : Nat → Nat} (hV : VOk V) {S : Nat} : (fmI V S < 0) = ¬ unI V S := by
  unfold fmI
  by_cases h : unI V S
  · rw [if_pos h]; exact propext ⟨fun z => absurd z (nI_pos (by have := h.1; omega)), fun z => absurd h z⟩
  · rw [if_neg h]; exact propext ⟨fun _ => h, fun _ => n6neg⟩
section PADM
variable {G : Gp} {d : Nat} {Q : Option Value → Mem → Prop} {σ : Mem} {V : Nat → Nat} {A : ASt}
theorem r_Xrule {b : Int32} (hA : AOk A) (hI : InvM σ A) (h : ∀ τ, MFr σ τ → InvM τ A → Q (some (.int (opRule A b))) τ) : E G MX5_rule (d + 20) 0 [some (.ref 57), some (.int b)] [] σ Q := by
  have hR := hI.1
  apply kX5_rule_0
  simp only [ia1, ia2, ia3, ia4, inn, inm, i10, i01, i0n, i1n, i0m, i1m, o_push, o_iload, o_aload, o_istore, o_iinc, o_iadd, o_isub, o_imul, o_iand, o_ior, o_ixor, o_ishl, o_ishr, o_iushr, o_idiv, o_irem, o_ineg, o_dup, o_dup2, o_pop, o_if_eq, o_if_ne, o_if_lt, o_if_ge, o_if_gt, o_if_le, o_icmp_eq, o_icmp_ne, o_icmp_lt, o_icmp_ge, o_icmp_gt, o_icmp_le, o_nonnull, o_lsw2, o_iret, o_zret, o_vret, o_cV0, o_cV1, o_cV2, o_cV3, o_cV4, o_cV5, o_cV6, o_cS1, o_cS2, o_cS3, o_cS4, lg, lset, inB, pushv, c1, okr, at_, List.replicate, true_and, and_true, true_or, or_true, eq_self, forall_const, not_true_eq_false, not_false_eq_true, forall_eq, false_implies, true_implies,  List.length_nil, List.length_cons, Nat.zero_le, Nat.reduceAdd, Nat.reduceLeDiff, sh57k]
  refine ⟨fun q => ?_, fun q => ?_⟩
  · rw [opRule, if_neg (Int32.not_lt.mpr q)] at h
    refine r_layRule (d := d + 15) hA.1 hR (fun τ f1 f2 hP => ?_)
    simp only [ia1, ia2, ia3, ia4, inn, inm, i10, i01, i0n, i1n, i0m, i1m, o_push, o_iload, o_aload, o_istore, o_iinc, o_iadd, o_isub, o_imul, o_iand, o_ior, o_ixor, o_ishl, o_ishr, o_iushr, o_idiv, o_irem, o_ineg, o_dup, o_dup2, o_pop, o_if_eq, o_if_ne, o_if_lt, o_if_ge, o_if_gt, o_if_le, o_icmp_eq, o_icmp_ne, o_icmp_lt, o_icmp_ge, o_icmp_gt, o_icmp_le, o_nonnull, o_lsw2, o_iret, o_zret, o_vret, o_cV0, o_cV1, o_cV2, o_cV3, o_cV4, o_cV5, o_cV6, o_cS1, o_cS2, o_cS3, o_cS4, lg, lset, inB, pushv, c1, okr, at_, List.replicate, true_and, and_true, true_or, or_true, eq_self, forall_const, not_true_eq_false, not_false_eq_true, forall_eq, false_implies, true_implies,  List.length_nil, List.length_cons, Nat.zero_le, Nat.reduceAdd, Nat.reduceLeDiff, sh57k]
    refine r_told (ruleP_inv hA.1).1 (Int32.not_lt.mpr q) hP ?_
    simp only [ia1, ia2, ia3, ia4, inn, inm, i10, i01, i0n, i1n, i0m, i1m, o_push, o_iload, o_aload, o_istore, o_iinc, o_iadd, o_isub, o_imul, o_iand, o_ior, o_ixor, o_ishl, o_ishr, o_iushr, o_idiv, o_irem, o_ineg, o_dup, o_dup2, o_pop, o_if_eq, o_if_ne, o_if_lt, o_if_ge, o_if_gt, o_if_le, o_icmp_eq, o_icmp_ne, o_icmp_lt, o_icmp_ge, o_icmp_gt, o_icmp_le, o_nonnull, o_lsw2, o_iret, o_zret, o_vret, o_cV0, o_cV1, o_cV2, o_cV3, o_cV4, o_cV5, o_cV6, o_cS1, o_cS2, o_cS3, o_cS4, lg, lset, inB, pushv, c1, okr, at_, List.replicate, true_and, and_true, true_or, or_true, eq_self, forall_const, not_true_eq_false, not_false_eq_true, forall_eq, false_implies, true_implies,  List.length_nil, List.length_cons, Nat.zero_le, Nat.reduceAdd, Nat.reduceLeDiff]
    exact h τ (fun a ha => f1 a (by omega) (by omega)) (hI.fr (hR.fr (f1 58 (by omega) (by omega))) (f2 4 (by omega)) (fun a ha => f1 a (by omega) (by omega)))
  · rw [opRule, if_pos (Int32.not_le.mp q)] at h
    exact h σ (fun _ _ => rfl) hI
theorem r_Xruled {m : Int32} (hA : AOk A) (hI : InvM σ A) (h : ∀ τ, MFr σ τ → InvM τ A → Q (some (.int (opRuled A m))) τ) : E G MX5_ruled (d + 20) 0 [some (.ref 57), some (.int m)] [] σ Q := by
  have hR := hI.1
  apply kX5_ruled_0
  simp only [ia1, ia2, ia3, ia4, inn, inm, i10, i01, i0n, i1n, i0m, i1m, o_push, o_iload, o_aload, o_istore, o_iinc, o_iadd, o_isub, o_imul, o_iand, o_ior, o_ixor, o_ishl, o_ishr, o_iushr, o_idiv, o_irem, o_ineg, o_dup, o_dup2, o_pop, o_if_eq, o_if_ne, o_if_lt, o_if_ge, o_if_gt, o_if_le, o_icmp_eq, o_icmp_ne, o_icmp_lt, o_icmp_ge, o_icmp_gt, o_icmp_le, o_nonnull, o_lsw2, o_iret, o_zret, o_vret, o_cV0, o_cV1, o_cV2, o_cV3, o_cV4, o_cV5, o_cV6, o_cS1, o_cS2, o_cS3, o_cS4, lg, lset, inB, pushv, c1, okr, at_, List.replicate, true_and, and_true, true_or, or_true, eq_self, forall_const, not_true_eq_false, not_false_eq_true, forall_eq, false_implies, true_implies,  List.length_nil, List.length_cons, Nat.zero_le, Nat.reduceAdd, Nat.reduceLeDiff]
  refine r_isMeasure (fun q => ?_) (fun q => ?_)
  · obtain ⟨m', -, hm, rfl⟩ := inN (a := 0) (b := 3) (by omega) (by omega) (by rw [← n0, ← n3]; exact q)
    rw [opRuled, if_neg (fun z => z q), fI_n (by omega)] at h
    simp only [ia1, ia2, ia3, ia4, inn, inm, i10, i01, i0n, i1n, i0m, i1m, o_push, o_iload, o_aload, o_istore, o_iinc, o_iadd, o_isub, o_imul, o_iand, o_ior, o_ixor, o_ishl, o_ishr, o_iushr, o_idiv, o_irem, o_ineg, o_dup, o_dup2, o_pop, o_if_eq, o_if_ne, o_if_lt, o_if_ge, o_if_gt, o_if_le, o_icmp_eq, o_icmp_ne, o_icmp_lt, o_icmp_ge, o_icmp_gt, o_icmp_le, o_nonnull, o_lsw2, o_iret, o_zret, o_vret, o_cV0, o_cV1, o_cV2, o_cV3, o_cV4, o_cV5, o_cV6, o_cS1, o_cS2, o_cS3, o_cS4, lg, lset, inB, pushv, c1, okr, at_, List.replicate, true_and, and_true, true_or, or_true, eq_self, forall_const, not_true_eq_false, not_false_eq_true, forall_eq, false_implies, true_implies,  List.length_nil, List.length_cons, Nat.zero_le, Nat.reduceAdd, Nat.reduceLeDiff, sh57k]
    refine r_layRule (d := d + 15) hA.1 hR (fun τ f1 f2 hP => ?_)
    simp only [ia1, ia2, ia3, ia4, inn, inm, i10, i01, i0n, i1n, i0m, i1m, o_push, o_iload, o_aload, o_istore, o_iinc, o_iadd, o_isub, o_imul, o_iand, o_ior, o_ixor, o_ishl, o_ishr, o_iushr, o_idiv, o_irem, o_ineg, o_dup, o_dup2, o_pop, o_if_eq, o_if_ne, o_if_lt, o_if_ge, o_if_gt, o_if_le, o_icmp_eq, o_icmp_ne, o_icmp_lt, o_icmp_ge, o_icmp_gt, o_icmp_le, o_nonnull, o_lsw2, o_iret, o_zret, o_vret, o_cV0, o_cV1, o_cV2, o_cV3, o_cV4, o_cV5, o_cV6, o_cS1, o_cS2, o_cS3, o_cS4, lg, lset, inB, pushv, c1, okr, at_, List.replicate, true_and, and_true, true_or, or_true, eq_self, forall_const, not_true_eq_false, not_false_eq_true, forall_eq, false_implies, true_implies,  List.length_nil, List.length_cons, Nat.zero_le, Nat.reduceAdd, Nat.reduceLeDiff, sh57k]
    refine r_measureOf (d := d + 16) hA.1 (by omega) (ruleP_inv hA.1).1 (hR.fr (f1 58 (by omega) (by omega))) hP (ruleP_inv hA.1).2 (fun τ2 f3 => ?_)
    simp only [ia1, ia2, ia3, ia4, inn, inm, i10, i01, i0n, i1n, i0m, i1m, o_push, o_iload, o_aload, o_istore, o_iinc, o_iadd, o_isub, o_imul, o_iand, o_ior, o_ixor, o_ishl, o_ishr, o_iushr, o_idiv, o_irem, o_ineg, o_dup, o_dup2, o_pop, o_if_eq, o_if_ne, o_if_lt, o_if_ge, o_if_gt, o_if_le, o_icmp_eq, o_icmp_ne, o_icmp_lt, o_icmp_ge, o_icmp_gt, o_icmp_le, o_nonnull, o_lsw2, o_iret, o_zret, o_vret, o_cV0, o_cV1, o_cV2, o_cV3, o_cV4, o_cV5, o_cV6, o_cS1, o_cS2, o_cS3, o_cS4, lg, lset, inB, pushv, c1, okr, at_, List.replicate, true_and, and_true, true_or, or_true, eq_self, forall_const, not_true_eq_false, not_false_eq_true, forall_eq, false_implies, true_implies,  List.length_nil, List.length_cons, Nat.zero_le, Nat.reduceAdd, Nat.reduceLeDiff]
    exact h τ2 (fun a ha => by rw [f3 a (by omega)]; exact f1 a (by omega) (by omega)) (hI.fr (hR.fr (by rw [f3 58 (by omega)]; exact f1 58 (by omega) (by omega))) (by rw [f3 57 (by omega)]; exact f2 4 (by omega)) (fun a ha => by rw [f3 a (by omega)]; exact f1 a (by omega) (by omega)))
  · rw [opRuled, if_pos q] at h
    simp only [ia1, ia2, ia3, ia4, inn, inm, i10, i01, i0n, i1n, i0m, i1m, o_push, o_iload, o_aload, o_istore, o_iinc, o_iadd, o_isub, o_imul, o_iand, o_ior, o_ixor, o_ishl, o_ishr, o_iushr, o_idiv, o_irem, o_ineg, o_dup, o_dup2, o_pop, o_if_eq, o_if_ne, o_if_lt, o_if_ge, o_if_gt, o_if_le, o_icmp_eq, o_icmp_ne, o_icmp_lt, o_icmp_ge, o_icmp_gt, o_icmp_le, o_nonnull, o_lsw2, o_iret, o_zret, o_vret, o_cV0, o_cV1, o_cV2, o_cV3, o_cV4, o_cV5, o_cV6, o_cS1, o_cS2, o_cS3, o_cS4, lg, lset, inB, pushv, c1, okr, at_, List.replicate, true_and, and_true, true_or, or_true, eq_self, forall_const, not_true_eq_false, not_false_eq_true, forall_eq, false_implies, true_implies,  List.length_nil, List.length_cons, Nat.zero_le, Nat.reduceAdd, Nat.reduceLeDiff]
    exact h σ (fun _ _ => rfl) hI
theorem r_canStand {s t c : Nat} (hV : VOk V) (hR : RAt σ V) (hs : s < 200) (ht : t < 128) (hc : c = 0 ∨ okB V c) (hct : ∀ j, c.testBit j = true → t.testBit j = true) (h11 : σ 57 11 = nI t) (h12 : σ 57 12 = nI c)
    (h1 : (s = 47 ∧ c ≠ 0) ∨ (s ≠ 47 ∧ canSt V s t c) → Q (some (.int 1)) σ) (h0 : (s = 47 ∧ c = 0) ∨ (s ≠ 47 ∧ ¬ canSt V s t c) → Q (some (.int 0)) σ) : E G MX5_canStand (d + 2) 0 [some (.ref 57), some (.int (nI s)), none] [] σ Q := by
  have h7 := hV.2.2.2.2.1
  have hr6 := hV.2.1
  have hc7 : c < 128 := by
    rcases hc with rfl | hc
    · omega
    · exact okB_lt hV hc
  apply kX5_canStand_0
  simp (disch := omega) only [ia1, ia2, ia3, ia4, inn, inm, i10, i01, i0n, i1n, i0m, i1m, o_push, o_iload, o_aload, o_istore, o_iinc, o_iadd, o_isub, o_imul, o_iand, o_ior, o_ixor, o_ishl, o_ishr, o_iushr, o_idiv, o_irem, o_ineg, o_dup, o_dup2, o_pop, o_if_eq, o_if_ne, o_if_lt, o_if_ge, o_if_gt, o_if_le, o_icmp_eq, o_icmp_ne, o_icmp_lt, o_icmp_ge, o_icmp_gt, o_icmp_le, o_nonnull, o_lsw2, o_iret, o_zret, o_vret, o_cV0, o_cV1, o_cV2, o_cV3, o_cV4, o_cV5, o_cV6, o_cS1, o_cS2, o_cS3, o_cS4, lg, lset, inB, pushv, c1, okr, at_, List.replicate, true_and, and_true, true_or, or_true, eq_self, forall_const, not_true_eq_false, not_false_eq_true, forall_eq, false_implies, true_implies,  List.length_nil, List.length_cons, Nat.zero_le, Nat.reduceAdd, Nat.reduceLeDiff, n47, nEq, gM12, h12, n48]
  refine ⟨fun q => ?_, fun q => ?_⟩
  · by_cases h48 : s < 48
    · refine r_in (fun z => absurd z.1 (neg48 h48)) (fun _ => ?_)
      simp only [ia1, ia2, ia3, ia4, inn, inm, i10, i01, i0n, i1n, i0m, i1m, o_push, o_iload, o_aload, o_istore, o_iinc, o_iadd, o_isub, o_imul, o_iand, o_ior, o_ixor, o_ishl, o_ishr, o_iushr, o_idiv, o_irem, o_ineg, o_dup, o_dup2, o_pop, o_if_eq, o_if_ne, o_if_lt, o_if_ge, o_if_gt, o_if_le, o_icmp_eq, o_icmp_ne, o_icmp_lt, o_icmp_ge, o_icmp_gt, o_icmp_le, o_nonnull, o_lsw2, o_iret, o_zret, o_vret, o_cV0, o_cV1, o_cV2, o_cV3, o_cV4, o_cV5, o_cV6, o_cS1, o_cS2, o_cS3, o_cS4, lg, lset, inB, pushv, c1, okr, at_, List.replicate, true_and, and_true, true_or, or_true, eq_self, forall_const, not_true_eq_false, not_false_eq_true, forall_eq, false_implies, true_implies,  List.length_nil, List.length_cons, Nat.zero_le, Nat.reduceAdd, Nat.reduceLeDiff]
      exact h0 (Or.inr ⟨q, fun z => by have := z.1; omega⟩)
    · have hp2 : s - 48 < 7 → 2 ^ (s - 48) < 2 ^ 7 := fun z => pow_lt z
      simp (disch := omega) only [nSub]
      refine r_in (fun z => ?_) (fun z => ?_)
      · have hj6 : s - 48 ≤ 6 := by
          have := z.2
          rw [n6, nLe (by omega) (by omega)] at this; exact this
        have hp2 := hp2 (by omega)
        simp only [ia1, ia2, ia3, ia4, inn, inm, i10, i01, i0n, i1n, i0m, i1m, o_push, o_iload, o_aload, o_istore, o_iinc, o_iadd, o_isub, o_imul, o_iand, o_ior, o_ixor, o_ishl, o_ishr, o_iushr, o_idiv, o_irem, o_ineg, o_dup, o_dup2, o_pop, o_if_eq, o_if_ne, o_if_lt, o_if_ge, o_if_gt, o_if_le, o_icmp_eq, o_icmp_ne, o_icmp_lt, o_icmp_ge, o_icmp_gt, o_icmp_le, o_nonnull, o_lsw2, o_iret, o_zret, o_vret, o_cV0, o_cV1, o_cV2, o_cV3, o_cV4, o_cV5, o_cV6, o_cS1, o_cS2, o_cS3, o_cS4, lg, lset, inB, pushv, c1, okr, at_, List.replicate, true_and, and_true, true_or, or_true, eq_self, forall_const, not_true_eq_false, not_false_eq_true, forall_eq, false_implies, true_implies,  List.length_nil, List.length_cons, Nat.zero_le, Nat.reduceAdd, Nat.reduceLeDiff, sh57k]
        refine r_isJob hR (fun z2 => ?_) (fun z2 => ?_)
        · have hj : s - 48 < V 9 := by
            rw [n1] at z2
            exact (in_job (by omega) (by omega)).mp z2
          simp only [ia1, ia2, ia3, ia4, inn, inm, i10, i01, i0n, i1n, i0m, i1m, o_push, o_iload, o_aload, o_istore, o_iinc, o_iadd, o_isub, o_imul, o_iand, o_ior, o_ixor, o_ishl, o_ishr, o_iushr, o_idiv, o_irem, o_ineg, o_dup, o_dup2, o_pop, o_if_eq, o_if_ne, o_if_lt, o_if_ge, o_if_gt, o_if_le, o_icmp_eq, o_icmp_ne, o_icmp_lt, o_icmp_ge, o_icmp_gt, o_icmp_le, o_nonnull, o_lsw2, o_iret, o_zret, o_vret, o_cV0, o_cV1, o_cV2, o_cV3, o_cV4, o_cV5, o_cV6, o_cS1, o_cS2, o_cS3, o_cS4, lg, lset, inB, pushv, c1, okr, at_, List.replicate, true_and, and_true, true_or, or_true, eq_self, forall_const, not_true_eq_false, not_false_eq_true, forall_eq, false_implies, true_implies,  List.length_nil, List.length_cons, Nat.zero_le, Nat.reduceAdd, Nat.reduceLeDiff, gM11, h11]
          refine r_has (by omega) (by omega) (fun hb => ?_) (fun hb => ?_)
          · simp only [ia1, ia2, ia3, ia4, inn, inm, i10, i01, i0n, i1n, i0m, i1m, o_push, o_iload, o_aload, o_istore, o_iinc, o_iadd, o_isub, o_imul, o_iand, o_ior, o_ixor, o_ishl, o_ishr, o_iushr, o_idiv, o_irem, o_ineg, o_dup, o_dup2, o_pop, o_if_eq, o_if_ne, o_if_lt, o_if_ge, o_if_gt, o_if_le, o_icmp_eq, o_icmp_ne, o_icmp_lt, o_icmp_ge, o_icmp_gt, o_icmp_le, o_nonnull, o_lsw2, o_iret, o_zret, o_vret, o_cV0, o_cV1, o_cV2, o_cV3, o_cV4, o_cV5, o_cV6, o_cS1, o_cS2, o_cS3, o_cS4, lg, lset, inB, pushv, c1, okr, at_, List.replicate, true_and, and_true, true_or, or_true, eq_self, forall_const, not_true_eq_false, not_false_eq_true, forall_eq, false_implies, true_implies,  List.length_nil, List.length_cons, Nat.zero_le, Nat.reduceAdd, Nat.reduceLeDiff]
            exact h0 (Or.inr ⟨q, fun z => absurd z.2.2.1 (by rw [hb]; simp)⟩)
          · have hcb : c.testBit (s - 48) = false := by
              cases hcc : c.testBit (s - 48)
              · rfl
              · rw [hct _ hcc] at hb; cases hb
            have hor : c ||| 2 ^ (s - 48) < 2 ^ 7 := Nat.or_lt_two_pow (n := 7) hc7 hp2
            have hiff := cs_iff hV hc hj hcb
            have hvl := sumS_le (f := fun j => V (17 + j)) (c := 9) (c ||| 2 ^ (s - 48)) (V 9) (fun j hj => (hV.2.2.2.2.2.1 j (by omega)).2.1)
            have hvl2 : volS V (c ||| 2 ^ (s - 48)) ≤ 63 := by unfold volS; omega
            simp (disch := omega) only [ia1, ia2, ia3, ia4, inn, inm, i10, i01, i0n, i1n, i0m, i1m, o_push, o_iload, o_aload, o_istore, o_iinc, o_iadd, o_isub, o_imul, o_iand, o_ior, o_ixor, o_ishl, o_ishr, o_iushr, o_idiv, o_irem, o_ineg, o_dup, o_dup2, o_pop, o_if_eq, o_if_ne, o_if_lt, o_if_ge, o_if_gt, o_if_le, o_icmp_eq, o_icmp_ne, o_icmp_lt, o_icmp_ge, o_icmp_gt, o_icmp_le, o_nonnull, o_lsw2, o_iret, o_zret, o_vret, o_cV0, o_cV1, o_cV2, o_cV3, o_cV4, o_cV5, o_cV6, o_cS1, o_cS2, o_cS3, o_cS4, lg, lset, inB, pushv, c1, okr, at_, List.replicate, true_and, and_true, true_or, or_true, eq_self, forall_const, not_true_eq_false, not_false_eq_true, forall_eq, false_implies, true_implies,  List.length_nil, List.length_cons, Nat.zero_le, Nat.reduceAdd, Nat.reduceLeDiff, gM12, h12, n1, shl1, fa_or, sh57k]
            refine r_familyOf (by omega) hV hR ?_
            simp (disch := omega) only [ia1, ia2, ia3, ia4, inn, inm, i10, i01, i0n, i1n, i0m, i1m, o_push, o_iload, o_aload, o_istore, o_iinc, o_iadd, o_isub, o_imul, o_iand, o_ior, o_ixor, o_ishl, o_ishr, o_iushr, o_idiv, o_irem, o_ineg, o_dup, o_dup2, o_pop, o_if_eq, o_if_ne, o_if_lt, o_if_ge, o_if_gt, o_if_le, o_icmp_eq, o_icmp_ne, o_icmp_lt, o_icmp_ge, o_icmp_gt, o_icmp_le, o_nonnull, o_lsw2, o_iret, o_zret, o_vret, o_cV0, o_cV1, o_cV2, o_cV3, o_cV4, o_cV5, o_cV6, o_cS1, o_cS2, o_cS3, o_cS4, lg, lset, inB, pushv, c1, okr, at_, List.replicate, true_and, and_true, true_or, or_true, eq_self, forall_const, not_true_eq_false, not_false_eq_true, forall_eq, false_implies, true_implies,  List.length_nil, List.length_cons, Nat.zero_le, Nat.reduceAdd, Nat.reduceLeDiff, gM12, h12, n1, shl1, fa_or, sh57k]
            rw [fm_lt hV]
            refine ⟨fun z3 => ?_, fun z3 => r_volumeOf (by omega) hV hR ?_⟩
            · exact h0 (Or.inr ⟨q, fun w => z3 (hiff.mpr w.2.2.2).1⟩)
            · simp (disch := omega) only [ia1, ia2, ia3, ia4, inn, inm, i10, i01, i0n, i1n, i0m, i1m, o_push, o_iload, o_aload, o_istore, o_iinc, o_iadd, o_isub, o_imul, o_iand, o_ior, o_ixor, o_ishl, o_ishr, o_iushr, o_idiv, o_irem, o_ineg, o_dup, o_dup2, o_pop, o_if_eq, o_if_ne, o_if_lt, o_if_ge, o_if_gt, o_if_le, o_icmp_eq, o_icmp_ne, o_icmp_lt, o_icmp_ge, o_icmp_gt, o_icmp_le, o_nonnull, o_lsw2, o_iret, o_zret, o_vret, o_cV0, o_cV1, o_cV2, o_cV3, o_cV4, o_cV5, o_cV6, o_cS1, o_cS2, o_cS3, o_cS4, lg, lset, inB, pushv, c1, okr, at_, List.replicate, true_and, and_true, true_or, or_true, eq_self, forall_const, not_true_eq_false, not_false_eq_true, forall_eq, false_implies, true_implies,  List.length_nil, List.length_cons, Nat.zero_le, Nat.reduceAdd, Nat.reduceLeDiff, gM0, n6, ldI sh58, hR 6 (by omega), nLt]
              refine ⟨fun z4 => h0 (Or.inr ⟨q, fun w => ?_⟩), fun z4 => h1 (Or.inr ⟨q, by omega, hj, hb, hiff.mp ⟨Classical.not_not.mp z3, by omega⟩⟩)⟩
              have := (hiff.mpr w.2.2.2).2
              omega
        · simp only [ia1, ia2, ia3, ia4, inn, inm, i10, i01, i0n, i1n, i0m, i1m, o_push, o_iload, o_aload, o_istore, o_iinc, o_iadd, o_isub, o_imul, o_iand, o_ior, o_ixor, o_ishl, o_ishr, o_iushr, o_idiv, o_irem, o_ineg, o_dup, o_dup2, o_pop, o_if_eq, o_if_ne, o_if_lt, o_if_ge, o_if_gt, o_if_le, o_icmp_eq, o_icmp_ne, o_icmp_lt, o_icmp_ge, o_icmp_gt, o_icmp_le, o_nonnull, o_lsw2, o_iret, o_zret, o_vret, o_cV0, o_cV1, o_cV2, o_cV3, o_cV4, o_cV5, o_cV6, o_cS1, o_cS2, o_cS3, o_cS4, lg, lset, inB, pushv, c1, okr, at_, List.replicate, true_and, and_true, true_or, or_true, eq_self, forall_const, not_true_eq_false, not_false_eq_true, forall_eq, false_implies, true_implies,  List.length_nil, List.length_cons, Nat.zero_le, Nat.reduceAdd, Nat.reduceLeDiff]
          exact h0 (Or.inr ⟨q, fun w => z2 (by rw [n1]; exact (in_job (by omega) (by omega)).mpr w.2.1)⟩)
      · simp only [ia1, ia2, ia3, ia4, inn, inm, i10, i01, i0n, i1n, i0m, i1m, o_push, o_iload, o_aload, o_istore, o_iinc, o_iadd, o_isub, o_imul, o_iand, o_ior, o_ixor, o_ishl, o_ishr, o_iushr, o_idiv, o_irem, o_ineg, o_dup, o_dup2, o_pop, o_if_eq, o_if_ne, o_if_lt, o_if_ge, o_if_gt, o_if_le, o_icmp_eq, o_icmp_ne, o_icmp_lt, o_icmp_ge, o_icmp_gt, o_icmp_le, o_nonnull, o_lsw2, o_iret, o_zret, o_vret, o_cV0, o_cV1, o_cV2, o_cV3, o_cV4, o_cV5, o_cV6, o_cS1, o_cS2, o_cS3, o_cS4, lg, lset, inB, pushv, c1, okr, at_, List.replicate, true_and, and_true, true_or, or_true, eq_self, forall_const, not_true_eq_false, not_false_eq_true, forall_eq, false_implies, true_implies,  List.length_nil, List.length_cons, Nat.zero_le, Nat.reduceAdd, Nat.reduceLeDiff]
        refine h0 (Or.inr ⟨q, fun w => z ⟨Int32.not_lt.mp (nI_pos (by omega)), ?_⟩⟩)
        have := w.2.1
        rw [n6, nLe (by omega) (by omega)]; omega
  · simp (disch := omega) only [n0, nEq]
    rw [← n0]
    exact ⟨fun z => h0 (Or.inl ⟨q, z⟩), fun z => h1 (Or.inl ⟨q, z⟩)⟩
theorem r_layPad {len : Nat} {sg : Nat → Nat} (hV : VOk V) (hR : RAt σ V) (hlen : len ≤ 14) (hsg : ∀ i, i < len → 33 ≤ sg i ∧ sg i ≤ 126) (h4 : σ 57 4 = nI len) (h61 : ∀ i, i < len → σ 61 i = nI (sg i))
    (h : ∀ τ, (∀ a, a ≠ 57 → a ≠ 62 → τ a = σ a) → (∀ i, i ≠ 6 → i ≠ 11 → i ≠ 12 → τ 57 i = σ 57 i) → τ 57 11 = nI (padX V len sg).2.1 → (padFault V len sg = none → MPl τ (padK V len sg) (padB V len sg)) → Q (some (.int (orNone (padFault V len sg)))) τ) :
    E G MX5_layPad (d + 3) 0 [some (.ref 57), none] [] σ Q := by
  have h7 := hV.2.2.2.2.1
  apply kX5_layPad_0
  simp only [ia1, ia2, ia3, ia4, inn, inm, i10, i01, i0n, i1n, i0m, i1m, o_push, o_iload, o_aload, o_istore, o_iinc, o_iadd, o_isub, o_imul, o_iand, o_ior, o_ixor, o_ishl, o_ishr, o_iushr, o_idiv, o_irem, o_ineg, o_dup, o_dup2, o_pop, o_if_eq, o_if_ne, o_if_lt, o_if_ge, o_if_gt, o_if_le, o_icmp_eq, o_icmp_ne, o_icmp_lt, o_icmp_ge, o_icmp_gt, o_icmp_le, o_nonnull, o_lsw2, o_iret, o_zret, o_vret, o_cV0, o_cV1, o_cV2, o_cV3, o_cV4, o_cV5, o_cV6, o_cS1, o_cS2, o_cS3, o_cS4, lg, lset, inB, pushv, c1, okr, at_, List.replicate, true_and, and_true, true_or, or_true, eq_self, forall_const, not_true_eq_false, not_false_eq_true, forall_eq, false_implies, true_implies,  List.length_nil, List.length_cons, Nat.zero_le, Nat.reduceAdd, Nat.reduceLeDiff, pM11, pM12, pM6, n0]
  suffices H : ∀ r i t c k (B : Nat → Nat) (τ : Mem), r + i = len → PInv V i t c k B → τ 57 11 = nI t → τ 57 12 = nI c → MPl τ k B → (∀ a, a ≠ 57 → a ≠ 62 → τ a = σ a) → (∀ i, i ≠ 6 → i ≠ 11 → i ≠ 12 → τ 57 i = σ 57 i) → padF V sg r i t c k B = padX V len sg →
      E G MX5_layPad (d + 3) 17 [some (.ref 57), some (.int (nI i))] [] τ Q from
    H len 0 0 0 0 (fun _ => 0) _ (by omega) ⟨Nat.two_pow_pos _, fun x hx => by omega, Or.inl rfl, rfl, by simp, by simp⟩ (by rw [wr_n (by omega), wr_n (by omega), wr_s]) (by rw [wr_n (by omega), wr_s]) ⟨wr_s, by omega, fun i hi => by omega⟩ (fun a z1 z2 => by rw [wr_o z1, wr_o z1, wr_o z1]) (fun i z1 z2 z3 => by rw [wr_n (by omega), wr_n (by omega), wr_n (by omega)]) rfl
  intro r
  induction r with
  | zero =>
    intro i t c k B τ hi hP h11 h12 hM hfr hfr6 hX
    obtain rfl : i = len := by omega
    have hs4 : τ 57 4 = nI i := by rw [hfr6 4 (by omega) (by omega) (by omega)]; exact h4
    obtain ⟨p1, p2, p3, p4, p5, p6⟩ := hP
    have hX' : padX V i sg = (i, t, c, k, B) := hX.symm
    have hc7 : c < 128 := by
      rcases p3 with rfl | hc
      · omega
      · exact okB_lt hV hc
    unfold padFault padK padB at h
    rw [hX', if_neg (Nat.lt_irrefl _)] at h
    simp only [] at h
    have end147 : (i = 0 ∨ c ≠ 0) → E G MX5_layPad (d + 3) 147 [some (.ref 57), some (.int (nI i))] [] τ Q := by
      intro hz
      apply kX5_layPad_147
      simp (disch := omega) only [ia1, ia2, ia3, ia4, inn, inm, i10, i01, i0n, i1n, i0m, i1m, o_push, o_iload, o_aload, o_istore, o_iinc, o_iadd, o_isub, o_imul, o_iand, o_ior, o_ixor, o_ishl, o_ishr, o_iushr, o_idiv, o_irem, o_ineg, o_dup, o_dup2, o_pop, o_if_eq, o_if_ne, o_if_lt, o_if_ge, o_if_gt, o_if_le, o_icmp_eq, o_icmp_ne, o_icmp_lt, o_icmp_ge, o_icmp_gt, o_icmp_le, o_nonnull, o_lsw2, o_iret, o_zret, o_vret, o_cV0, o_cV1, o_cV2, o_cV3, o_cV4, o_cV5, o_cV6, o_cS1, o_cS2, o_cS3, o_cS4, lg, lset, inB, pushv, c1, okr, at_, List.replicate, true_and, and_true, true_or, or_true, eq_self, forall_const, not_true_eq_false, not_false_eq_true, forall_eq, false_implies, true_implies,  List.length_nil, List.length_cons, Nat.zero_le, Nat.reduceAdd, Nat.reduceLeDiff, gM4, hs4, n0, nLe, gM5, gM6, hM.1, gM12, h12, stI sh62, wr_o, pM6, n1, nI_add]
      refine ⟨fun q => ?_, fun q => ?_⟩
      · have hi0 : i = 0 := by omega
        have hc0 : c = 0 := by
          by_cases z : c = 0
          · exact z
          · rw [if_neg z] at p6; omega
        rw [if_pos hc0, if_pos hi0, if_pos hc0, if_pos hc0] at h
        exact h τ hfr hfr6 h11 (fun _ => hM)
      · have hc0 : c ≠ 0 := by
          rcases hz with z | z
          · omega
          · exact z
        rw [if_neg hc0, if_neg hc0, if_neg hc0] at h
        rw [if_neg hc0] at p6
        refine h _ (fun a z1 z2 => by rw [wr_o z1, wr_o z2]; exact hfr a z1 z2) (fun i z1 z2 z3 => by rw [wr_n (by omega), wr_o (by omega)]; exact hfr6 i z1 z2 z3) (by rw [wr_n (by omega), wr_o (by omega)]; exact h11) (fun _ => ⟨wr_s, by omega, fun x hx => ?_⟩)
        rw [wr_o (by omega)]
        unfold upN
        by_cases hxk : x = k
        · subst hxk; rw [wr_s, if_pos rfl]; exact ⟨rfl, hc7⟩
        · rw [wr_n (by omega), if_neg hxk]; exact hM.2.2 x (by omega)
    apply kX5_layPad_17
    simp (disch := omega) only [ia1, ia2, ia3, ia4, inn, inm, i10, i01, i0n, i1n, i0m, i1m, o_push, o_iload, o_aload, o_istore, o_iinc, o_iadd, o_isub, o_imul, o_iand, o_ior, o_ixor, o_ishl, o_ishr, o_iushr, o_idiv, o_irem, o_ineg, o_dup, o_dup2, o_pop, o_if_eq, o_if_ne, o_if_lt, o_if_ge, o_if_gt, o_if_le, o_icmp_eq, o_icmp_ne, o_icmp_lt, o_icmp_ge, o_icmp_gt, o_icmp_le, o_nonnull, o_lsw2, o_iret, o_zret, o_vret, o_cV0, o_cV1, o_cV2, o_cV3, o_cV4, o_cV5, o_cV6, o_cS1, o_cS2, o_cS3, o_cS4, lg, lset, inB, pushv, c1, okr, at_, List.replicate, true_and, and_true, true_or, or_true, eq_self, forall_const, not_true_eq_false, not_false_eq_true, forall_eq, false_implies, true_implies,  List.length_nil, List.length_cons, Nat.zero_le, Nat.reduceAdd, Nat.reduceLeDiff, gM4, hs4, nLe, Nat.le_refl, n0, gM12, h12, nEq]
    refine ⟨fun q => end147 (Or.inl (by omega)), fun q => ⟨fun q2 => end147 (Or.inr q2), fun q2 => ?_⟩⟩
    rw [if_pos q2, if_neg (by omega)] at h
    exact h τ hfr hfr6 h11 (fun z => by cases z)
  | succ r ih =>
    intro i t c k B τ hi hP h11 h12 hM hfr hfr6 hX
    have hs4 : τ 57 4 = nI len := by rw [hfr6 4 (by omega) (by omega) (by omega)]; exact h4
    have hs61 : τ 61 i = nI (sg i) := by rw [hfr 61 (by omega) (by omega)]; exact h61 i (by omega)
    have hRt : RAt τ V := hR.fr (hfr 58 (by omega) (by omega))
    have hsi := hsg i (by omega)
    have hnx := padF_inv (sg := sg) hV 1 i t c k B hP
    obtain ⟨p1, p2, p3, p4, p5, p6⟩ := id hP
    have ht7 : t < 128 := Nat.lt_of_lt_of_le p1 (p7 h7)
    have hc7 : c < 128 := by
      rcases p3 with rfl | hc
      · omega
      · exact okB_lt hV hc
    have hct : ∀ j, c.testBit j = true → t.testBit j = true := fun j hj => by rw [← p4, Nat.testBit_or, hj]; simp
    apply kX5_layPad_17
    simp (disch := omega) only [ia1, ia2, ia3, ia4, inn, inm, i10, i01, i0n, i1n, i0m, i1m, o_push, o_iload, o_aload, o_istore, o_iinc, o_iadd, o_isub, o_imul, o_iand, o_ior, o_ixor, o_ishl, o_ishr, o_iushr, o_idiv, o_irem, o_ineg, o_dup, o_dup2, o_pop, o_if_eq, o_if_ne, o_if_lt, o_if_ge, o_if_gt, o_if_le, o_icmp_eq, o_icmp_ne, o_icmp_lt, o_icmp_ge, o_icmp_gt, o_icmp_le, o_nonnull, o_lsw2, o_iret, o_zret, o_vret, o_cV0, o_cV1, o_cV2, o_cV3, o_cV4, o_cV5, o_cV6, o_cS1, o_cS2, o_cS3, o_cS4, lg, lset, inB, pushv, c1, okr, at_, List.replicate, true_and, and_true, true_or, or_true, eq_self, forall_const, not_true_eq_false, not_false_eq_true, forall_eq, false_implies, true_implies,  List.length_nil, List.length_cons, Nat.zero_le, Nat.reduceAdd, Nat.reduceLeDiff, gM4, hs4, nLe, gM3, ldI sh61, hs61, sh57k]
    refine ⟨fun q => absurd q (by omega), fun _ => ?_⟩
    refine r_canStand hV hRt (by omega) ht7 p3 hct h11 h12 (fun hst => ?_) (fun hst => ?_)
    · simp only [ia1, ia2, ia3, ia4, inn, inm, i10, i01, i0n, i1n, i0m, i1m, o_push, o_iload, o_aload, o_istore, o_iinc, o_iadd, o_isub, o_imul, o_iand, o_ior, o_ixor, o_ishl, o_ishr, o_iushr, o_idiv, o_irem, o_ineg, o_dup, o_dup2, o_pop, o_if_eq, o_if_ne, o_if_lt, o_if_ge, o_if_gt, o_if_le, o_icmp_eq, o_icmp_ne, o_icmp_lt, o_icmp_ge, o_icmp_gt, o_icmp_le, o_nonnull, o_lsw2, o_iret, o_zret, o_vret, o_cV0, o_cV1, o_cV2, o_cV3, o_cV4, o_cV5, o_cV6, o_cS1, o_cS2, o_cS3, o_cS4, lg, lset, inB, pushv, c1, okr, at_, List.replicate, true_and, and_true, true_or, or_true, eq_self, forall_const, not_true_eq_false, not_false_eq_true, forall_eq, false_implies, true_implies,  List.length_nil, List.length_cons, Nat.zero_le, Nat.reduceAdd, Nat.reduceLeDiff]
      simp (disch := omega) only [ia1, ia2, ia3, ia4, inn, inm, i10, i01, i0n, i1n, i0m, i1m, o_push, o_iload, o_aload, o_istore, o_iinc, o_iadd, o_isub, o_imul, o_iand, o_ior, o_ixor, o_ishl, o_ishr, o_iushr, o_idiv, o_irem, o_ineg, o_dup, o_dup2, o_pop, o_if_eq, o_if_ne, o_if_lt, o_if_ge, o_if_gt, o_if_le, o_icmp_eq, o_icmp_ne, o_icmp_lt, o_icmp_ge, o_icmp_gt, o_icmp_le, o_nonnull, o_lsw2, o_iret, o_zret, o_vret, o_cV0, o_cV1, o_cV2, o_cV3, o_cV4, o_cV5, o_cV6, o_cS1, o_cS2, o_cS3, o_cS4, lg, lset, inB, pushv, c1, okr, at_, List.replicate, true_and, and_true, true_or, or_true, eq_self, forall_const, not_true_eq_false, not_false_eq_true, forall_eq, false_implies, true_implies,  List.length_nil, List.length_cons, Nat.zero_le, Nat.reduceAdd, Nat.reduceLeDiff, gM4, gM3, ldI sh61, hs61, n47, nEq, gM5, gM6, hM.1, gM12, h12, stI sh62, wr_o, pM6, pM12, n1, nI_add, n0]
      refine ⟨fun q => ?_, fun q => ?_⟩
      · rcases hst with hst | hst
        · exact absurd hst.1 q
        · have hcs := hst.2
          simp (disch := omega) only [n48, nSub, shl1, fa_or, wr_n, gM11, h11, pM11, gM3, ldI sh61, wr_o, hs61, ia1, ia2, ia3, ia4, inn, inm, i10, i01, i0n, i1n, i0m, i1m, o_push, o_iload, o_aload, o_istore, o_iinc, o_iadd, o_isub, o_imul, o_iand, o_ior, o_ixor, o_ishl, o_ishr, o_iushr, o_idiv, o_irem, o_ineg, o_dup, o_dup2, o_pop, o_if_eq, o_if_ne, o_if_lt, o_if_ge, o_if_gt, o_if_le, o_icmp_eq, o_icmp_ne, o_icmp_lt, o_icmp_ge, o_icmp_gt, o_icmp_le, o_nonnull, o_lsw2, o_iret, o_zret, o_vret, o_cV0, o_cV1, o_cV2, o_cV3, o_cV4, o_cV5, o_cV6, o_cS1, o_cS2, o_cS3, o_cS4, lg, lset, inB, pushv, c1, okr, at_, List.replicate, true_and, and_true, true_or, or_true, eq_self, forall_const, not_true_eq_false, not_false_eq_true, forall_eq, false_implies, true_implies,  List.length_nil, List.length_cons, Nat.zero_le, Nat.reduceAdd, Nat.reduceLeDiff, n1, nI_add]
          rw [padF, if_neg q, if_pos hcs] at hX
          rw [padF, if_neg q, if_pos hcs] at hnx
          refine ih (i + 1) (t ||| 2 ^ (sg i - 48)) (c ||| 2 ^ (sg i - 48)) k B _ (by omega) hnx wr_s (by rw [wr_n (by omega), wr_s]) (hM.fr (by rw [wr_n (by omega), wr_n (by omega)]) (by rw [wr_o (by omega), wr_o (by omega)])) (fun a z1 z2 => by rw [wr_o z1, wr_o z1]; exact hfr a z1 z2) (fun i z1 z2 z3 => by rw [wr_n (by omega), wr_n (by omega)]; exact hfr6 i z1 z2 z3) hX
      · have hc0 : c ≠ 0 := by
          rcases hst with hst | hst
          · exact hst.2
          · exact absurd q hst.1
        rw [padF, if_pos q, if_neg hc0] at hX
        rw [padF, if_pos q, if_neg hc0] at hnx
        rw [if_neg hc0] at p6
        refine ih (i + 1) t 0 (k + 1) (upN B k c) _ (by omega) hnx (by rw [wr_n (by omega), wr_n (by omega), wr_o (by omega)]; exact h11) wr_s ⟨by rw [wr_n (by omega), wr_s], by omega, fun x hx => ?_⟩ (fun a z1 z2 => by rw [wr_o z1, wr_o z1, wr_o z2]; exact hfr a z1 z2) (fun i z1 z2 z3 => by rw [wr_n (by omega), wr_n (by omega), wr_o (by omega)]; exact hfr6 i z1 z2 z3) hX
        rw [wr_o (by omega), wr_o (by omega)]
        unfold upN
        by_cases hxk : x = k
        · subst hxk; rw [wr_s, if_pos rfl]; exact ⟨rfl, hc7⟩
        · rw [wr_n (by omega), if_neg hxk]; exact hM.2.2 x (by omega)
    · have hX' : padX V len sg = (i, t, c, k, B) := by
        rw [← hX, padF]
        rcases hst with ⟨a1, a2⟩ | ⟨a1, a2⟩
        · rw [if_pos a1, if_pos a2]
        · rw [if_neg a1, if_neg a2]
      have hfa : padFault V len sg = some i := by
        unfold padFault
        rw [hX']
        simp only []
        rw [if_pos (by omega)]
      rw [hfa, hX'] at h
      simp only [ia1, ia2, ia3, ia4, inn, inm, i10, i01, i0n, i1n, i0m, i1m, o_push, o_iload, o_aload, o_istore, o_iinc, o_iadd, o_isub, o_imul, o_iand, o_ior, o_ixor, o_ishl, o_ishr, o_iushr, o_idiv, o_irem, o_ineg, o_dup, o_dup2, o_pop, o_if_eq, o_if_ne, o_if_lt, o_if_ge, o_if_gt, o_if_le, o_icmp_eq, o_icmp_ne, o_icmp_lt, o_icmp_ge, o_icmp_gt, o_icmp_le, o_nonnull, o_lsw2, o_iret, o_zret, o_vret, o_cV0, o_cV1, o_cV2, o_cV3, o_cV4, o_cV5, o_cV6, o_cS1, o_cS2, o_cS3, o_cS4, lg, lset, inB, pushv, c1, okr, at_, List.replicate, true_and, and_true, true_or, or_true, eq_self, forall_const, not_true_eq_false, not_false_eq_true, forall_eq, false_implies, true_implies,  List.length_nil, List.length_cons, Nat.zero_le, Nat.reduceAdd, Nat.reduceLeDiff]
      exact h τ hfr hfr6 h11 (fun z => by cases z)
end PADM
