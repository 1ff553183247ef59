/-! marks, and what is least from there on -/
def ML (m : Nat) (V : Nat → Nat) (left g t : Nat) : Nat := if m = 2 then t + LL 2 V left g t else LL m V left g t
def mcand (m : Nat) (V : Nat → Nat) (left g t S : Nat) : Nat := jn m (bth m V S (t + tk V g (famS V S))) (ML m V (sd left S) (famS V S) (t + tk V g (famS V S)))
theorem mcand_eq {m : Nat} {V : Nat → Nat} (hm : m < 4) {left g t S : Nat} : mcand m V left g t S = (if m = 2 then t + cand m V (LL m V) left g t S else cand m V (LL m V) left g t S) := by
  unfold mcand ML cand bth part jn
  obtain rfl | rfl | rfl | rfl : m = 0 ∨ m = 1 ∨ m = 2 ∨ m = 3 := by omega
  · simp
  · simp
  · simp; omega
  · simp
theorem ML_le {m : Nat} {V : Nat → Nat} (hm : m < 4) {left g t S : Nat} (hl : left < 128) (hS : okB V S) (hs : S &&& left = S) : ML m V left g t ≤ mcand m V left g t S := by
  have := LL_le (m := m) (g := g) (t := t) hl hS hs
  rw [mcand_eq hm]
  unfold ML
  by_cases h2 : m = 2
  · subst h2; simp; exact this
  · rw [if_neg h2, if_neg h2]; exact this
theorem ML_ex {m : Nat} {V : Nat → Nat} (hV : VOk V) (hm : m < 4) {left g t : Nat} (hl : left < 2 ^ V 9) (h0 : left ≠ 0) : ∃ S, okB V S ∧ S &&& left = S ∧ ML m V left g t = mcand m V left g t S := by
  obtain ⟨S, h1, h2, h3⟩ := LL_ex (m := m) hV (g := g) (t := t) hl h0
  refine ⟨S, h1, h2, ?_⟩
  rw [mcand_eq hm]
  unfold ML
  by_cases hz : m = 2
  · subst hz; simp; exact h3
  · rw [if_neg hz, if_neg hz]; exact h3
theorem ML_0 {m : Nat} {V : Nat → Nat} {g t : Nat} : ML m V 0 g t = if m = 2 then t else 0 := by
  unfold ML; rw [LL_0, LL_0]; simp
theorem ML_bd {m : Nat} {V : Nat → Nat} (hV : VOk V) {left g t : Nat} (hl : left < 2 ^ V 9) (ht : t + 47 * pc left ≤ 329) : ML m V left g t ≤ 20000 := by
  have hl7 : left < 128 := Nat.lt_of_lt_of_le hl (p7 hV.2.2.2.2.1)
  have h1 := LL_bd (m := m) hV 7 left g t hl (pc_7 _ hl7) ht
  have h2 := LL_bd (m := 2) hV 7 left g t hl (pc_7 _ hl7) ht
  unfold ML
  split <;> omega
/-- what is left when a set is put in -/
theorem left_or {V : Nat → Nat} (hV : VOk V) {s b : Nat} (hs : s < 128) (hb : b < 128) : sd (fullS V) (s ||| b) = sd (sd (fullS V) s) b := by
  unfold sd
  rw [not_or s hs b hb, Nat.and_assoc]
theorem left_sub {V : Nat → Nat} {s b : Nat} (hs : s < 128) (hb : b < 2 ^ V 9) (hb7 : b < 128) : (b &&& s = 0) ↔ b &&& sd (fullS V) s = b := by
  rw [dis_sub b hb7 s hs]
  unfold sd
  rw [← Nat.and_assoc, full_sub hb]
theorem left_pc : ∀ n, n ≤ 7 → ∀ s, s < 2 ^ n → pc (sd (2 ^ n - 1) s) + pc s = n := by decide +kernel
theorem left_t {V : Nat → Nat} (hV : VOk V) {s t : Nat} (hs : s < 2 ^ V 9) (ht : t ≤ 47 * pc s) : t + 47 * pc (sd (fullS V) s) ≤ 329 := by
  have := left_pc (V 9) hV.2.2.2.2.1 s hs
  have h7 := hV.2.2.2.2.1
  unfold fullS
  omega
/-- a place's least -/
def mlq (m : Nat) (V : Nat → Nat) (q : Nat) : Nat := ML m V (sd (fullS V) (q / 1320)) (q / 330 % 4) (q % 330)
def ADone (σ : Mem) (m : Nat) (V : Nat → Nat) : Prop := ∀ q, q < (fullS V + 1) * 1320 → σ 65 q = 1 → σ 66 q = nI (mlq m V q)
section LEASTM
variable {G : Gp} {d : Nat} {Q : Option Value → Mem → Prop} {σ : Mem} {V : Nat → Nat} {m : Nat}
theorem BFt.fr {τ : Mem} (h : BFt σ V) (he : τ 64 = σ 64) : BFt τ V := by unfold BFt; rw [he]; exact h
set_option maxRecDepth 2000 in
theorem r_markAll (hV : VOk V) (hR : RAt σ V) (hB : BFt σ V) (h : ∀ τ, (∀ a, a ≠ 65 → τ a = σ a) → CInv τ V → Q none τ) : E G MX5_markAll (d + 3) 0 [some (.ref 57), none, none, none] [] σ Q := by
  have hf := full_lt hV
  have hbd := full_bd hV
  have h2 : fullS V + 1 = 2 ^ V 9 := by have : 1 ≤ 2 ^ V 9 := Nat.one_le_two_pow; unfold fullS; omega
  have hN : plc (fullS V + 1) 0 0 = (fullS V + 1) * 1320 := by unfold plc; omega
  have h990 : plc 0 3 0 = 990 := rfl
  -- the loops over the places
  have main : ∀ (τ : Mem) (x2 x3 : Option Value), (∀ a, a ≠ 65 → τ a = σ a) → CB τ V → τ 65 990 = 1 → E G MX5_markAll (d + 3) 44 [some (.ref 57), some (.int (nI 0)), x2, x3] [] τ Q := by
    suffices H44 : ∀ k s (τ : Mem) (x2 x3 : Option Value), k + s = fullS V → (∀ a, a ≠ 65 → τ a = σ a) → CB τ V → τ 65 990 = 1 → Clo τ V (s * 1320) → E G MX5_markAll (d + 3) 44 [some (.ref 57), some (.int (nI s)), x2, x3] [] τ Q from
      fun τ x2 x3 a b c => H44 (fullS V) 0 τ x2 x3 (by omega) a b c (fun q hq => by omega)
    intro k
    induction k with
    | zero =>
      intro s τ x2 x3 hk hfr hC h9 hcl
      obtain rfl : s = fullS V := by omega
      have hRt : RAt τ V := hR.fr (hfr 58 (by omega))
      apply kX5_markAll_44
      simp only [ia1, ia2, ia3, ia4, inn, inm, i10, i01, i0n, i1n, i0m, i1m, o_push, o_iload, o_aload, o_istore, o_iinc, o_iadd, o_isub, o_imul, o_iand, o_ior, o_ixor, o_ishl, o_ishr, o_iushr, o_idiv, o_irem, o_ineg, o_dup, o_dup2, o_pop, o_if_eq, o_if_ne, o_if_lt, o_if_ge, o_if_gt, o_if_le, o_icmp_eq, o_icmp_ne, o_icmp_lt, o_icmp_ge, o_icmp_gt, o_icmp_le, o_nonnull, o_lsw2, o_iret, o_zret, o_vret, o_cV0, o_cV1, o_cV2, o_cV3, o_cV4, o_cV5, o_cV6, o_cS1, o_cS2, o_cS3, o_cS4, lg, lset, inB, pushv, c1, okr, at_, List.replicate, true_and, and_true, true_or, or_true, eq_self, forall_const, not_true_eq_false, not_false_eq_true, forall_eq, false_implies, true_implies,  List.length_nil, List.length_cons, Nat.zero_le, Nat.reduceAdd, Nat.reduceLeDiff, sh57k]
      refine r_full hV hRt ?_
      simp (disch := omega) only [ia1, ia2, ia3, ia4, inn, inm, i10, i01, i0n, i1n, i0m, i1m, o_push, o_iload, o_aload, o_istore, o_iinc, o_iadd, o_isub, o_imul, o_iand, o_ior, o_ixor, o_ishl, o_ishr, o_iushr, o_idiv, o_irem, o_ineg, o_dup, o_dup2, o_pop, o_if_eq, o_if_ne, o_if_lt, o_if_ge, o_if_gt, o_if_le, o_icmp_eq, o_icmp_ne, o_icmp_lt, o_icmp_ge, o_icmp_gt, o_icmp_le, o_nonnull, o_lsw2, o_iret, o_zret, o_vret, o_cV0, o_cV1, o_cV2, o_cV3, o_cV4, o_cV5, o_cV6, o_cS1, o_cS2, o_cS3, o_cS4, lg, lset, inB, pushv, c1, okr, at_, List.replicate, true_and, and_true, true_or, or_true, eq_self, forall_const, not_true_eq_false, not_false_eq_true, forall_eq, false_implies, true_implies,  List.length_nil, List.length_cons, Nat.zero_le, Nat.reduceAdd, Nat.reduceLeDiff, nLe, Nat.le_refl]
      refine h τ hfr ⟨hC, h9, fun q hq hm b hb hbs => ?_⟩
      by_cases hq2 : q < fullS V * 1320
      · exact hcl q hq2 hm b hb hbs
      · have e : q / 1320 = fullS V := by omega
        rw [e, full_sub hb.2.1] at hbs
        exact absurd hbs hb.1
    | succ k ih44 =>
      intro s τ x2 x3 hk hfr hC h9 hcl
      have hRt : RAt τ V := hR.fr (hfr 58 (by omega))
      apply kX5_markAll_44
      simp only [ia1, ia2, ia3, ia4, inn, inm, i10, i01, i0n, i1n, i0m, i1m, o_push, o_iload, o_aload, o_istore, o_iinc, o_iadd, o_isub, o_imul, o_iand, o_ior, o_ixor, o_ishl, o_ishr, o_iushr, o_idiv, o_irem, o_ineg, o_dup, o_dup2, o_pop, o_if_eq, o_if_ne, o_if_lt, o_if_ge, o_if_gt, o_if_le, o_icmp_eq, o_icmp_ne, o_icmp_lt, o_icmp_ge, o_icmp_gt, o_icmp_le, o_nonnull, o_lsw2, o_iret, o_zret, o_vret, o_cV0, o_cV1, o_cV2, o_cV3, o_cV4, o_cV5, o_cV6, o_cS1, o_cS2, o_cS3, o_cS4, lg, lset, inB, pushv, c1, okr, at_, List.replicate, true_and, and_true, true_or, or_true, eq_self, forall_const, not_true_eq_false, not_false_eq_true, forall_eq, false_implies, true_implies,  List.length_nil, List.length_cons, Nat.zero_le, Nat.reduceAdd, Nat.reduceLeDiff, sh57k]
      refine r_full hV hRt ?_
      simp (disch := omega) only [ia1, ia2, ia3, ia4, inn, inm, i10, i01, i0n, i1n, i0m, i1m, o_push, o_iload, o_aload, o_istore, o_iinc, o_iadd, o_isub, o_imul, o_iand, o_ior, o_ixor, o_ishl, o_ishr, o_iushr, o_idiv, o_irem, o_ineg, o_dup, o_dup2, o_pop, o_if_eq, o_if_ne, o_if_lt, o_if_ge, o_if_gt, o_if_le, o_icmp_eq, o_icmp_ne, o_icmp_lt, o_icmp_ge, o_icmp_gt, o_icmp_le, o_nonnull, o_lsw2, o_iret, o_zret, o_vret, o_cV0, o_cV1, o_cV2, o_cV3, o_cV4, o_cV5, o_cV6, o_cS1, o_cS2, o_cS3, o_cS4, lg, lset, inB, pushv, c1, okr, at_, List.replicate, true_and, and_true, true_or, or_true, eq_self, forall_const, not_true_eq_false, not_false_eq_true, forall_eq, false_implies, true_implies,  List.length_nil, List.length_cons, Nat.zero_le, Nat.reduceAdd, Nat.reduceLeDiff, nLe, n0]
      refine ⟨fun q => absurd q (by omega), fun _ => ?_⟩
      suffices H54 : ∀ k2 l (τ : Mem) (x3 : Option Value), k2 + l = 4 → (∀ a, a ≠ 65 → τ a = σ a) → CB τ V → τ 65 990 = 1 → Clo τ V (plc s l 0) → E G MX5_markAll (d + 3) 54 [some (.ref 57), some (.int (nI s)), some (.int (nI l)), x3] [] τ Q from
        H54 4 0 τ x3 (by omega) hfr hC h9 (by unfold plc; rw [show (s * 4 + 0) * 330 + 0 = s * 1320 by omega]; exact hcl)
      intro k2
      induction k2 with
      | zero =>
        intro l τ x3 hl hfr hC h9 hcl
        obtain rfl : l = 4 := by omega
        apply kX5_markAll_54
        simp (disch := omega) only [ia1, ia2, ia3, ia4, inn, inm, i10, i01, i0n, i1n, i0m, i1m, o_push, o_iload, o_aload, o_istore, o_iinc, o_iadd, o_isub, o_imul, o_iand, o_ior, o_ixor, o_ishl, o_ishr, o_iushr, o_idiv, o_irem, o_ineg, o_dup, o_dup2, o_pop, o_if_eq, o_if_ne, o_if_lt, o_if_ge, o_if_gt, o_if_le, o_icmp_eq, o_icmp_ne, o_icmp_lt, o_icmp_ge, o_icmp_gt, o_icmp_le, o_nonnull, o_lsw2, o_iret, o_zret, o_vret, o_cV0, o_cV1, o_cV2, o_cV3, o_cV4, o_cV5, o_cV6, o_cS1, o_cS2, o_cS3, o_cS4, lg, lset, inB, pushv, c1, okr, at_, List.replicate, true_and, and_true, true_or, or_true, eq_self, forall_const, not_true_eq_false, not_false_eq_true, forall_eq, false_implies, true_implies,  List.length_nil, List.length_cons, Nat.zero_le, Nat.reduceAdd, Nat.reduceLeDiff, n3, nLt, n1, nI_add]
        refine ⟨fun _ => ih44 (s + 1) τ _ _ (by omega) hfr hC h9 ?_, fun q => absurd (by omega) q⟩
        rw [show (s + 1) * 1320 = plc s 4 0 by unfold plc; omega]
        exact hcl
      | succ k2 ih54 =>
        intro l τ x3 hl hfr hC h9 hcl
        apply kX5_markAll_54
        simp (disch := omega) only [ia1, ia2, ia3, ia4, inn, inm, i10, i01, i0n, i1n, i0m, i1m, o_push, o_iload, o_aload, o_istore, o_iinc, o_iadd, o_isub, o_imul, o_iand, o_ior, o_ixor, o_ishl, o_ishr, o_iushr, o_idiv, o_irem, o_ineg, o_dup, o_dup2, o_pop, o_if_eq, o_if_ne, o_if_lt, o_if_ge, o_if_gt, o_if_le, o_icmp_eq, o_icmp_ne, o_icmp_lt, o_icmp_ge, o_icmp_gt, o_icmp_le, o_nonnull, o_lsw2, o_iret, o_zret, o_vret, o_cV0, o_cV1, o_cV2, o_cV3, o_cV4, o_cV5, o_cV6, o_cS1, o_cS2, o_cS3, o_cS4, lg, lset, inB, pushv, c1, okr, at_, List.replicate, true_and, and_true, true_or, or_true, eq_self, forall_const, not_true_eq_false, not_false_eq_true, forall_eq, false_implies, true_implies,  List.length_nil, List.length_cons, Nat.zero_le, Nat.reduceAdd, Nat.reduceLeDiff, n3, nLt, n1, n0]
        refine ⟨fun q => absurd q (by omega), fun _ => ?_⟩
        suffices H61 : ∀ k3 t (τ : Mem), k3 + t = 330 → (∀ a, a ≠ 65 → τ a = σ a) → CB τ V → τ 65 990 = 1 → Clo τ V (plc s l t) → E G MX5_markAll (d + 3) 61 [some (.ref 57), some (.int (nI s)), some (.int (nI l)), some (.int (nI t))] [] τ Q from
          H61 330 0 τ (by omega) hfr hC h9 hcl
        intro k3
        induction k3 with
        | zero =>
          intro t τ ht hfr hC h9 hcl
          obtain rfl : t = 330 := by omega
          apply kX5_markAll_61
          simp (disch := omega) only [ia1, ia2, ia3, ia4, inn, inm, i10, i01, i0n, i1n, i0m, i1m, o_push, o_iload, o_aload, o_istore, o_iinc, o_iadd, o_isub, o_imul, o_iand, o_ior, o_ixor, o_ishl, o_ishr, o_iushr, o_idiv, o_irem, o_ineg, o_dup, o_dup2, o_pop, o_if_eq, o_if_ne, o_if_lt, o_if_ge, o_if_gt, o_if_le, o_icmp_eq, o_icmp_ne, o_icmp_lt, o_icmp_ge, o_icmp_gt, o_icmp_le, o_nonnull, o_lsw2, o_iret, o_zret, o_vret, o_cV0, o_cV1, o_cV2, o_cV3, o_cV4, o_cV5, o_cV6, o_cS1, o_cS2, o_cS3, o_cS4, lg, lset, inB, pushv, c1, okr, at_, List.replicate, true_and, and_true, true_or, or_true, eq_self, forall_const, not_true_eq_false, not_false_eq_true, forall_eq, false_implies, true_implies,  List.length_nil, List.length_cons, Nat.zero_le, Nat.reduceAdd, Nat.reduceLeDiff, n330, nLe, Nat.le_refl, n1, nI_add]
          refine ih54 (l + 1) τ _ (by omega) hfr hC h9 ?_
          rw [show plc s (l + 1) 0 = plc s l 330 by unfold plc; omega]
          exact hcl
        | succ k3 ih61 =>
          intro t τ ht hfr hC h9 hcl
          have hRt : RAt τ V := hR.fr (hfr 58 (by omega))
          have hBt : BFt τ V := hB.fr (hfr 64 (by omega))
          have hpl := plc_lt (s := s) (l := l) (t := t) (by omega) (by omega)
          have hpN : plc s l t < (fullS V + 1) * 1320 := Nat.lt_of_lt_of_le hpl (Nat.mul_le_mul_right 1320 (by omega))
          have e1 := plc_s (s := s) (l := l) (t := t) (by omega) (by omega)
          have e2 := plc_l (s := s) (l := l) (t := t) (by omega) (by omega)
          have e3 := plc_t (s := s) (l := l) (t := t) (by omega)
          have hstep : plc s l (t + 1) = plc s l t + 1 := rfl
          apply kX5_markAll_61
          simp (disch := omega) only [ia1, ia2, ia3, ia4, inn, inm, i10, i01, i0n, i1n, i0m, i1m, o_push, o_iload, o_aload, o_istore, o_iinc, o_iadd, o_isub, o_imul, o_iand, o_ior, o_ixor, o_ishl, o_ishr, o_iushr, o_idiv, o_irem, o_ineg, o_dup, o_dup2, o_pop, o_if_eq, o_if_ne, o_if_lt, o_if_ge, o_if_gt, o_if_le, o_icmp_eq, o_icmp_ne, o_icmp_lt, o_icmp_ge, o_icmp_gt, o_icmp_le, o_nonnull, o_lsw2, o_iret, o_zret, o_vret, o_cV0, o_cV1, o_cV2, o_cV3, o_cV4, o_cV5, o_cV6, o_cS1, o_cS2, o_cS3, o_cS4, lg, lset, inB, pushv, c1, okr, at_, List.replicate, true_and, and_true, true_or, or_true, eq_self, forall_const, not_true_eq_false, not_false_eq_true, forall_eq, false_implies, true_implies,  List.length_nil, List.length_cons, Nat.zero_le, Nat.reduceAdd, Nat.reduceLeDiff, n330, nLe, gM9]
          refine ⟨fun q => absurd q (by omega), fun _ => r_place ?_⟩
          simp (disch := omega) only [ia1, ia2, ia3, ia4, inn, inm, i10, i01, i0n, i1n, i0m, i1m, o_push, o_iload, o_aload, o_istore, o_iinc, o_iadd, o_isub, o_imul, o_iand, o_ior, o_ixor, o_ishl, o_ishr, o_iushr, o_idiv, o_irem, o_ineg, o_dup, o_dup2, o_pop, o_if_eq, o_if_ne, o_if_lt, o_if_ge, o_if_gt, o_if_le, o_icmp_eq, o_icmp_ne, o_icmp_lt, o_icmp_ge, o_icmp_gt, o_icmp_le, o_nonnull, o_lsw2, o_iret, o_zret, o_vret, o_cV0, o_cV1, o_cV2, o_cV3, o_cV4, o_cV5, o_cV6, o_cS1, o_cS2, o_cS3, o_cS4, lg, lset, inB, pushv, c1, okr, at_, List.replicate, true_and, and_true, true_or, or_true, eq_self, forall_const, not_true_eq_false, not_false_eq_true, forall_eq, false_implies, true_implies,  List.length_nil, List.length_cons, Nat.zero_le, Nat.reduceAdd, Nat.reduceLeDiff, ldZ sh65, n1, nI_add, sh57k]
          rcases hC (plc s l t) hpN with hz | ⟨hz, hzt⟩
          · rw [hz]
            refine ⟨fun _ => ih61 (t + 1) τ (by omega) hfr hC h9 ?_, fun q => absurd rfl q⟩
            rw [hstep]
            intro q hq hm
            by_cases hqp : q = plc s l t
            · rw [hqp, hz] at hm; exact absurd hm (by decide)
            · exact hcl q (by omega) hm
          · rw [hz]
            rw [e1, e3] at hzt
            refine ⟨fun q => absurd q (by decide), fun _ => r_markFrom hV hRt hBt hC (by omega) (by omega) hzt (fun τ2 f2 hC2 hlo hmo hdn => ?_)⟩
            simp only [ia1, ia2, ia3, ia4, inn, inm, i10, i01, i0n, i1n, i0m, i1m, o_push, o_iload, o_aload, o_istore, o_iinc, o_iadd, o_isub, o_imul, o_iand, o_ior, o_ixor, o_ishl, o_ishr, o_iushr, o_idiv, o_irem, o_ineg, o_dup, o_dup2, o_pop, o_if_eq, o_if_ne, o_if_lt, o_if_ge, o_if_gt, o_if_le, o_icmp_eq, o_icmp_ne, o_icmp_lt, o_icmp_ge, o_icmp_gt, o_icmp_le, o_nonnull, o_lsw2, o_iret, o_zret, o_vret, o_cV0, o_cV1, o_cV2, o_cV3, o_cV4, o_cV5, o_cV6, o_cS1, o_cS2, o_cS3, o_cS4, lg, lset, inB, pushv, c1, okr, at_, List.replicate, true_and, and_true, true_or, or_true, eq_self, forall_const, not_true_eq_false, not_false_eq_true, forall_eq, false_implies, true_implies,  List.length_nil, List.length_cons, Nat.zero_le, Nat.reduceAdd, Nat.reduceLeDiff, n1, nI_add]
            refine ih61 (t + 1) τ2 (by omega) (fun a ha => by rw [f2 a ha]; exact hfr a ha) hC2 (hmo 990 h9) ?_
            rw [hstep]
            intro q hq hm b hb hbs
            by_cases hqp : q = plc s l t
            · subst hqp
              rw [e1] at hbs ⊢
              rw [e2, e3]
              exact hdn b hb hbs
            · have hql : q < plc s l t := by omega
              rw [hlo q (Nat.lt_trans hql hpl)] at hm
              exact hmo _ (hcl q hql hm b hb hbs)
  apply kX5_markAll_0
  simp only [ia1, ia2, ia3, ia4, inn, inm, i10, i01, i0n, i1n, i0m, i1m, o_push, o_iload, o_aload, o_istore, o_iinc, o_iadd, o_isub, o_imul, o_iand, o_ior, o_ixor, o_ishl, o_ishr, o_iushr, o_idiv, o_irem, o_ineg, o_dup, o_dup2, o_pop, o_if_eq, o_if_ne, o_if_lt, o_if_ge, o_if_gt, o_if_le, o_icmp_eq, o_icmp_ne, o_icmp_lt, o_icmp_ge, o_icmp_gt, o_icmp_le, o_nonnull, o_lsw2, o_iret, o_zret, o_vret, o_cV0, o_cV1, o_cV2, o_cV3, o_cV4, o_cV5, o_cV6, o_cS1, o_cS2, o_cS3, o_cS4, lg, lset, inB, pushv, c1, okr, at_, List.replicate, true_and, and_true, true_or, or_true, eq_self, forall_const, not_true_eq_false, not_false_eq_true, forall_eq, false_implies, true_implies,  List.length_nil, List.length_cons, Nat.zero_le, Nat.reduceAdd, Nat.reduceLeDiff, n0]
  suffices H : ∀ k i (τ : Mem), k + i = (fullS V + 1) * 1320 → (∀ a, a ≠ 65 → τ a = σ a) → (∀ q, q < i → τ 65 q = 0) → E G MX5_markAll (d + 3) 2 [some (.ref 57), some (.int (nI i)), none, none] [] τ Q from
    H _ 0 σ (by omega) (fun _ _ => rfl) (fun q hq => by omega)
  intro k
  induction k with
  | zero =>
    intro i τ hi hfr hz
    have hRt : RAt τ V := hR.fr (hfr 58 (by omega))
    apply kX5_markAll_2
    simp only [ia1, ia2, ia3, ia4, inn, inm, i10, i01, i0n, i1n, i0m, i1m, o_push, o_iload, o_aload, o_istore, o_iinc, o_iadd, o_isub, o_imul, o_iand, o_ior, o_ixor, o_ishl, o_ishr, o_iushr, o_idiv, o_irem, o_ineg, o_dup, o_dup2, o_pop, o_if_eq, o_if_ne, o_if_lt, o_if_ge, o_if_gt, o_if_le, o_icmp_eq, o_icmp_ne, o_icmp_lt, o_icmp_ge, o_icmp_gt, o_icmp_le, o_nonnull, o_lsw2, o_iret, o_zret, o_vret, o_cV0, o_cV1, o_cV2, o_cV3, o_cV4, o_cV5, o_cV6, o_cS1, o_cS2, o_cS3, o_cS4, lg, lset, inB, pushv, c1, okr, at_, List.replicate, true_and, and_true, true_or, or_true, eq_self, forall_const, not_true_eq_false, not_false_eq_true, forall_eq, false_implies, true_implies,  List.length_nil, List.length_cons, Nat.zero_le, Nat.reduceAdd, Nat.reduceLeDiff, sh57k]
    refine r_full hV hRt ?_
    simp only [ia1, ia2, ia3, ia4, inn, inm, i10, i01, i0n, i1n, i0m, i1m, o_push, o_iload, o_aload, o_istore, o_iinc, o_iadd, o_isub, o_imul, o_iand, o_ior, o_ixor, o_ishl, o_ishr, o_iushr, o_idiv, o_irem, o_ineg, o_dup, o_dup2, o_pop, o_if_eq, o_if_ne, o_if_lt, o_if_ge, o_if_gt, o_if_le, o_icmp_eq, o_icmp_ne, o_icmp_lt, o_icmp_ge, o_icmp_gt, o_icmp_le, o_nonnull, o_lsw2, o_iret, o_zret, o_vret, o_cV0, o_cV1, o_cV2, o_cV3, o_cV4, o_cV5, o_cV6, o_cS1, o_cS2, o_cS3, o_cS4, lg, lset, inB, pushv, c1, okr, at_, List.replicate, true_and, and_true, true_or, or_true, eq_self, forall_const, not_true_eq_false, not_false_eq_true, forall_eq, false_implies, true_implies,  List.length_nil, List.length_cons, Nat.zero_le, Nat.reduceAdd, Nat.reduceLeDiff, n1, n0, nI_add]
    refine r_place ?_
    rw [hN]
    simp (disch := omega) only [ia1, ia2, ia3, ia4, inn, inm, i10, i01, i0n, i1n, i0m, i1m, o_push, o_iload, o_aload, o_istore, o_iinc, o_iadd, o_isub, o_imul, o_iand, o_ior, o_ixor, o_ishl, o_ishr, o_iushr, o_idiv, o_irem, o_ineg, o_dup, o_dup2, o_pop, o_if_eq, o_if_ne, o_if_lt, o_if_ge, o_if_gt, o_if_le, o_icmp_eq, o_icmp_ne, o_icmp_lt, o_icmp_ge, o_icmp_gt, o_icmp_le, o_nonnull, o_lsw2, o_iret, o_zret, o_vret, o_cV0, o_cV1, o_cV2, o_cV3, o_cV4, o_cV5, o_cV6, o_cS1, o_cS2, o_cS3, o_cS4, lg, lset, inB, pushv, c1, okr, at_, List.replicate, true_and, and_true, true_or, or_true, eq_self, forall_const, not_true_eq_false, not_false_eq_true, forall_eq, false_implies, true_implies,  List.length_nil, List.length_cons, Nat.zero_le, Nat.reduceAdd, Nat.reduceLeDiff, nLe, gM9, n0, n3]
    refine ⟨fun _ => ?_, fun q => absurd (by omega) q⟩
    refine r_place ?_
    rw [h990]
    simp (disch := omega) only [ia1, ia2, ia3, ia4, inn, inm, i10, i01, i0n, i1n, i0m, i1m, o_push, o_iload, o_aload, o_istore, o_iinc, o_iadd, o_isub, o_imul, o_iand, o_ior, o_ixor, o_ishl, o_ishr, o_iushr, o_idiv, o_irem, o_ineg, o_dup, o_dup2, o_pop, o_if_eq, o_if_ne, o_if_lt, o_if_ge, o_if_gt, o_if_le, o_icmp_eq, o_icmp_ne, o_icmp_lt, o_icmp_ge, o_icmp_gt, o_icmp_le, o_nonnull, o_lsw2, o_iret, o_zret, o_vret, o_cV0, o_cV1, o_cV2, o_cV3, o_cV4, o_cV5, o_cV6, o_cS1, o_cS2, o_cS3, o_cS4, lg, lset, inB, pushv, c1, okr, at_, List.replicate, true_and, and_true, true_or, or_true, eq_self, forall_const, not_true_eq_false, not_false_eq_true, forall_eq, false_implies, true_implies,  List.length_nil, List.length_cons, Nat.zero_le, Nat.reduceAdd, Nat.reduceLeDiff, stZ sh65]
    rw [← n1, nar1]
    refine main _ _ _ (fun a ha => by rw [wr_o ha]; exact hfr a ha) (fun q hq => ?_) wr_s
    by_cases hq9 : q = 990
    · subst hq9
      rw [wr_s]
      exact Or.inr ⟨rfl, by decide⟩
    · rw [wr_n (by omega)]; exact Or.inl (hz q (by omega))
  | succ k ih =>
    intro i τ hi hfr hz
    have hRt : RAt τ V := hR.fr (hfr 58 (by omega))
    apply kX5_markAll_2
    simp only [ia1, ia2, ia3, ia4, inn, inm, i10, i01, i0n, i1n, i0m, i1m, o_push, o_iload, o_aload, o_istore, o_iinc, o_iadd, o_isub, o_imul, o_iand, o_ior, o_ixor, o_ishl, o_ishr, o_iushr, o_idiv, o_irem, o_ineg, o_dup, o_dup2, o_pop, o_if_eq, o_if_ne, o_if_lt, o_if_ge, o_if_gt, o_if_le, o_icmp_eq, o_icmp_ne, o_icmp_lt, o_icmp_ge, o_icmp_gt, o_icmp_le, o_nonnull, o_lsw2, o_iret, o_zret, o_vret, o_cV0, o_cV1, o_cV2, o_cV3, o_cV4, o_cV5, o_cV6, o_cS1, o_cS2, o_cS3, o_cS4, lg, lset, inB, pushv, c1, okr, at_, List.replicate, true_and, and_true, true_or, or_true, eq_self, forall_const, not_true_eq_false, not_false_eq_true, forall_eq, false_implies, true_implies,  List.length_nil, List.length_cons, Nat.zero_le, Nat.reduceAdd, Nat.reduceLeDiff, sh57k]
    refine r_full hV hRt ?_
    simp only [ia1, ia2, ia3, ia4, inn, inm, i10, i01, i0n, i1n, i0m, i1m, o_push, o_iload, o_aload, o_istore, o_iinc, o_iadd, o_isub, o_imul, o_iand, o_ior, o_ixor, o_ishl, o_ishr, o_iushr, o_idiv, o_irem, o_ineg, o_dup, o_dup2, o_pop, o_if_eq, o_if_ne, o_if_lt, o_if_ge, o_if_gt, o_if_le, o_icmp_eq, o_icmp_ne, o_icmp_lt, o_icmp_ge, o_icmp_gt, o_icmp_le, o_nonnull, o_lsw2, o_iret, o_zret, o_vret, o_cV0, o_cV1, o_cV2, o_cV3, o_cV4, o_cV5, o_cV6, o_cS1, o_cS2, o_cS3, o_cS4, lg, lset, inB, pushv, c1, okr, at_, List.replicate, true_and, and_true, true_or, or_true, eq_self, forall_const, not_true_eq_false, not_false_eq_true, forall_eq, false_implies, true_implies,  List.length_nil, List.length_cons, Nat.zero_le, Nat.reduceAdd, Nat.reduceLeDiff, n1, n0, nI_add]
    refine r_place ?_
    rw [hN]
    simp (disch := omega) only [ia1, ia2, ia3, ia4, inn, inm, i10, i01, i0n, i1n, i0m, i1m, o_push, o_iload, o_aload, o_istore, o_iinc, o_iadd, o_isub, o_imul, o_iand, o_ior, o_ixor, o_ishl, o_ishr, o_iushr, o_idiv, o_irem, o_ineg, o_dup, o_dup2, o_pop, o_if_eq, o_if_ne, o_if_lt, o_if_ge, o_if_gt, o_if_le, o_icmp_eq, o_icmp_ne, o_icmp_lt, o_icmp_ge, o_icmp_gt, o_icmp_le, o_nonnull, o_lsw2, o_iret, o_zret, o_vret, o_cV0, o_cV1, o_cV2, o_cV3, o_cV4, o_cV5, o_cV6, o_cS1, o_cS2, o_cS3, o_cS4, lg, lset, inB, pushv, c1, okr, at_, List.replicate, true_and, and_true, true_or, or_true, eq_self, forall_const, not_true_eq_false, not_false_eq_true, forall_eq, false_implies, true_implies,  List.length_nil, List.length_cons, Nat.zero_le, Nat.reduceAdd, Nat.reduceLeDiff, nLe, gM9, stZ sh65, nI_add]
    refine ⟨fun q => absurd q (by omega), fun _ => ih (i + 1) _ (by omega) (fun a ha => by rw [wr_o ha]; exact hfr a ha) (fun q hq => ?_)⟩
    by_cases hqi : q = i
    · subst hqi; rw [wr_s, ← n0, nar0]
    · rw [wr_n (by omega)]; exact hz q (by omega)
set_option maxRecDepth 2000 in
theorem r_leastFrom {s l t : Nat} (hV : VOk V) (hm : m < 4) (hR : RAt σ V) (hB : BFt σ V) (hs : s < 2 ^ V 9) (hl : l < 4) (ht : t ≤ 47 * pc s)
    (hL : ∀ b, okB V b → b &&& s = 0 → σ 66 (plc (s ||| b) (famS V b) (t + tk V l (famS V b))) = nI (ML m V (sd (sd (fullS V) s) b) (famS V b) (t + tk V l (famS V b))))
    (h : Q (some (.int (nI (ML m V (sd (fullS V) s) l t)))) σ) : E G MX5_leastFrom (d + 3) 0 [some (.ref 57), some (.int (nI m)), some (.int (nI s)), some (.int (nI l)), some (.int (nI t)), none, none, none, none] [] σ Q := by
  have hf := full_lt hV
  have hbd := full_bd hV
  have h2 : fullS V + 1 = 2 ^ V 9 := by have : 1 ≤ 2 ^ V 9 := Nat.one_le_two_pow; unfold fullS; omega
  have hs7 : s < 128 := by omega
  have hps := pc_7 s hs7
  have hlt := left_t hV hs ht
  have hleft : sd (fullS V) s < 2 ^ V 9 := sd_sub full_lt2
  have hleft7 : sd (fullS V) s < 128 := by omega
  have n105 : (100000 : Int32) = nI 100000 := by decide +kernel
  apply kX5_leastFrom_0
  simp only [ia1, ia2, ia3, ia4, inn, inm, i10, i01, i0n, i1n, i0m, i1m, o_push, o_iload, o_aload, o_istore, o_iinc, o_iadd, o_isub, o_imul, o_iand, o_ior, o_ixor, o_ishl, o_ishr, o_iushr, o_idiv, o_irem, o_ineg, o_dup, o_dup2, o_pop, o_if_eq, o_if_ne, o_if_lt, o_if_ge, o_if_gt, o_if_le, o_icmp_eq, o_icmp_ne, o_icmp_lt, o_icmp_ge, o_icmp_gt, o_icmp_le, o_nonnull, o_lsw2, o_iret, o_zret, o_vret, o_cV0, o_cV1, o_cV2, o_cV3, o_cV4, o_cV5, o_cV6, o_cS1, o_cS2, o_cS3, o_cS4, lg, lset, inB, pushv, c1, okr, at_, List.replicate, true_and, and_true, true_or, or_true, eq_self, forall_const, not_true_eq_false, not_false_eq_true, forall_eq, false_implies, true_implies,  List.length_nil, List.length_cons, Nat.zero_le, Nat.reduceAdd, Nat.reduceLeDiff, sh57k]
  refine r_full hV hR ?_
  simp (disch := omega) only [ia1, ia2, ia3, ia4, inn, inm, i10, i01, i0n, i1n, i0m, i1m, o_push, o_iload, o_aload, o_istore, o_iinc, o_iadd, o_isub, o_imul, o_iand, o_ior, o_ixor, o_ishl, o_ishr, o_iushr, o_idiv, o_irem, o_ineg, o_dup, o_dup2, o_pop, o_if_eq, o_if_ne, o_if_lt, o_if_ge, o_if_gt, o_if_le, o_icmp_eq, o_icmp_ne, o_icmp_lt, o_icmp_ge, o_icmp_gt, o_icmp_le, o_nonnull, o_lsw2, o_iret, o_zret, o_vret, o_cV0, o_cV1, o_cV2, o_cV3, o_cV4, o_cV5, o_cV6, o_cS1, o_cS2, o_cS3, o_cS4, lg, lset, inB, pushv, c1, okr, at_, List.replicate, true_and, and_true, true_or, or_true, eq_self, forall_const, not_true_eq_false, not_false_eq_true, forall_eq, false_implies, true_implies,  List.length_nil, List.length_cons, Nat.zero_le, Nat.reduceAdd, Nat.reduceLeDiff, nEq, n2, n0, n1, n105]
  refine ⟨fun q => ?_, fun q => ⟨fun q2 => ?_, fun q2 => ?_⟩⟩
  · have hl0 : sd (fullS V) s ≠ 0 := fun z => q (sd_eq0 (fullS V) hf s hs7 (full_sub hs) z)
    suffices H : ∀ k b x (x7 x8 : Option Value), k + b = fullS V + 1 → 1 ≤ b → x ≤ 100000 → (∀ S, okB V S → S &&& s = 0 → S < b → x ≤ mcand m V (sd (fullS V) s) l t S) → (x = 100000 ∨ ∃ S, okB V S ∧ S &&& s = 0 ∧ x = mcand m V (sd (fullS V) s) l t S) →
        E G MX5_leastFrom (d + 3) 27 [some (.ref 57), some (.int (nI m)), some (.int (nI s)), some (.int (nI l)), some (.int (nI t)), some (.int (nI x)), some (.int (nI b)), x7, x8] [] σ Q from
      H (fullS V) 1 100000 _ _ (by omega) (by omega) (by omega) (fun S hS _ hlt => absurd hS.1 (by omega)) (Or.inl rfl)
    intro k
    induction k with
    | zero =>
      intro b x x7 x8 hb hb1 hx hmin hex
      have hval : x = ML m V (sd (fullS V) s) l t := by
        obtain ⟨S1, hS1, hs1, he1⟩ := ML_ex (m := m) hV hm (g := l) (t := t) hleft hl0
        have hd1 := (left_sub (V := V) hs7 hS1.2.1 (okB_lt hV hS1)).mpr hs1
        have h1 := hmin S1 hS1 hd1 (by have := hS1.2.1; omega)
        have hbdm := ML_bd (m := m) hV (left := sd (fullS V) s) (g := l) (t := t) hleft hlt
        rcases hex with z | ⟨S, hS, hsd, he⟩
        · omega
        · have := ML_le (V := V) hm (left := sd (fullS V) s) (g := l) (t := t) hleft7 hS ((left_sub hs7 hS.2.1 (okB_lt hV hS)).mp hsd)
          omega
      apply kX5_leastFrom_27
      simp only [ia1, ia2, ia3, ia4, inn, inm, i10, i01, i0n, i1n, i0m, i1m, o_push, o_iload, o_aload, o_istore, o_iinc, o_iadd, o_isub, o_imul, o_iand, o_ior, o_ixor, o_ishl, o_ishr, o_iushr, o_idiv, o_irem, o_ineg, o_dup, o_dup2, o_pop, o_if_eq, o_if_ne, o_if_lt, o_if_ge, o_if_gt, o_if_le, o_icmp_eq, o_icmp_ne, o_icmp_lt, o_icmp_ge, o_icmp_gt, o_icmp_le, o_nonnull, o_lsw2, o_iret, o_zret, o_vret, o_cV0, o_cV1, o_cV2, o_cV3, o_cV4, o_cV5, o_cV6, o_cS1, o_cS2, o_cS3, o_cS4, lg, lset, inB, pushv, c1, okr, at_, List.replicate, true_and, and_true, true_or, or_true, eq_self, forall_const, not_true_eq_false, not_false_eq_true, forall_eq, false_implies, true_implies,  List.length_nil, List.length_cons, Nat.zero_le, Nat.reduceAdd, Nat.reduceLeDiff, sh57k]
      refine r_full hV hR ?_
      simp (disch := omega) only [ia1, ia2, ia3, ia4, inn, inm, i10, i01, i0n, i1n, i0m, i1m, o_push, o_iload, o_aload, o_istore, o_iinc, o_iadd, o_isub, o_imul, o_iand, o_ior, o_ixor, o_ishl, o_ishr, o_iushr, o_idiv, o_irem, o_ineg, o_dup, o_dup2, o_pop, o_if_eq, o_if_ne, o_if_lt, o_if_ge, o_if_gt, o_if_le, o_icmp_eq, o_icmp_ne, o_icmp_lt, o_icmp_ge, o_icmp_gt, o_icmp_le, o_nonnull, o_lsw2, o_iret, o_zret, o_vret, o_cV0, o_cV1, o_cV2, o_cV3, o_cV4, o_cV5, o_cV6, o_cS1, o_cS2, o_cS3, o_cS4, lg, lset, inB, pushv, c1, okr, at_, List.replicate, true_and, and_true, true_or, or_true, eq_self, forall_const, not_true_eq_false, not_false_eq_true, forall_eq, false_implies, true_implies,  List.length_nil, List.length_cons, Nat.zero_le, Nat.reduceAdd, Nat.reduceLeDiff, nLt]
      rw [hval]
      exact ⟨fun _ => h, fun z => absurd (by omega) z⟩
    | succ k ih =>
      intro b x x7 x8 hb hb1 hx hmin hex
      have hBb := hB b (by omega)
      have hand : b &&& s ≤ b := Nat.and_le_left
      have skip : ¬ (okB V b ∧ b &&& s = 0) → ∀ x7 x8 : Option Value, E G MX5_leastFrom (d + 3) 27 [some (.ref 57), some (.int (nI m)), some (.int (nI s)), some (.int (nI l)), some (.int (nI t)), some (.int (nI x)), some (.int (nI (b + 1))), x7, x8] [] σ Q := by
        intro hz x7 x8
        refine ih (b + 1) x x7 x8 (by omega) (by omega) hx (fun S hS hsd hlt => ?_) hex
        by_cases hSb : S = b
        · subst hSb; exact absurd ⟨hS, hsd⟩ hz
        · exact hmin S hS hsd (by omega)
      apply kX5_leastFrom_27
      simp only [ia1, ia2, ia3, ia4, inn, inm, i10, i01, i0n, i1n, i0m, i1m, o_push, o_iload, o_aload, o_istore, o_iinc, o_iadd, o_isub, o_imul, o_iand, o_ior, o_ixor, o_ishl, o_ishr, o_iushr, o_idiv, o_irem, o_ineg, o_dup, o_dup2, o_pop, o_if_eq, o_if_ne, o_if_lt, o_if_ge, o_if_gt, o_if_le, o_icmp_eq, o_icmp_ne, o_icmp_lt, o_icmp_ge, o_icmp_gt, o_icmp_le, o_nonnull, o_lsw2, o_iret, o_zret, o_vret, o_cV0, o_cV1, o_cV2, o_cV3, o_cV4, o_cV5, o_cV6, o_cS1, o_cS2, o_cS3, o_cS4, lg, lset, inB, pushv, c1, okr, at_, List.replicate, true_and, and_true, true_or, or_true, eq_self, forall_const, not_true_eq_false, not_false_eq_true, forall_eq, false_implies, true_implies,  List.length_nil, List.length_cons, Nat.zero_le, Nat.reduceAdd, Nat.reduceLeDiff, sh57k]
      refine r_full hV hR ?_
      simp (disch := omega) only [ia1, ia2, ia3, ia4, inn, inm, i10, i01, i0n, i1n, i0m, i1m, o_push, o_iload, o_aload, o_istore, o_iinc, o_iadd, o_isub, o_imul, o_iand, o_ior, o_ixor, o_ishl, o_ishr, o_iushr, o_idiv, o_irem, o_ineg, o_dup, o_dup2, o_pop, o_if_eq, o_if_ne, o_if_lt, o_if_ge, o_if_gt, o_if_le, o_icmp_eq, o_icmp_ne, o_icmp_lt, o_icmp_ge, o_icmp_gt, o_icmp_le, o_nonnull, o_lsw2, o_iret, o_zret, o_vret, o_cV0, o_cV1, o_cV2, o_cV3, o_cV4, o_cV5, o_cV6, o_cS1, o_cS2, o_cS3, o_cS4, lg, lset, inB, pushv, c1, okr, at_, List.replicate, true_and, and_true, true_or, or_true, eq_self, forall_const, not_true_eq_false, not_false_eq_true, forall_eq, false_implies, true_implies,  List.length_nil, List.length_cons, Nat.zero_le, Nat.reduceAdd, Nat.reduceLeDiff, nLt, fa_and, n0, nEq, gM8, ldI sh64, hBb, n1, nI_add, fa_or, sh57k]
      refine ⟨fun z => absurd z (by omega), fun _ => ⟨fun z => skip (fun w => z w.2) _ _, fun z => ?_⟩⟩
      rw [← n0, rbw_neg hV]
      refine ⟨fun w => skip (fun y => w y.1) _ _, fun w => ?_⟩
      have hok : okB V b := Classical.not_not.mp w
      have hf3 := famS_lt hV hok.1 hok.2.1
      have hk := tk_le hV l (famS V b)
      have hpo := pc_or s hs7 b (by omega) hok.1 z
      have hsb : s ||| b < 2 ^ V 9 := Nat.or_lt_two_pow hs hok.2.1
      have hp7 := pc_7 (s ||| b) (by omega)
      have hLb := hL b hok z
      have hsub := (left_sub (V := V) hs7 hok.2.1 (by omega)).mp z
      have hpd := pc_sd (sd (fullS V) s) hleft7 b (by omega) hok.1 hsub
      rw [rbw, if_pos hok]
      refine r_endOf hl hf3 hV hR ?_
      simp only [ia1, ia2, ia3, ia4, inn, inm, i10, i01, i0n, i1n, i0m, i1m, o_push, o_iload, o_aload, o_istore, o_iinc, o_iadd, o_isub, o_imul, o_iand, o_ior, o_ixor, o_ishl, o_ishr, o_iushr, o_idiv, o_irem, o_ineg, o_dup, o_dup2, o_pop, o_if_eq, o_if_ne, o_if_lt, o_if_ge, o_if_gt, o_if_le, o_icmp_eq, o_icmp_ne, o_icmp_lt, o_icmp_ge, o_icmp_gt, o_icmp_le, o_nonnull, o_lsw2, o_iret, o_zret, o_vret, o_cV0, o_cV1, o_cV2, o_cV3, o_cV4, o_cV5, o_cV6, o_cS1, o_cS2, o_cS3, o_cS4, lg, lset, inB, pushv, c1, okr, at_, List.replicate, true_and, and_true, true_or, or_true, eq_self, forall_const, not_true_eq_false, not_false_eq_true, forall_eq, false_implies, true_implies,  List.length_nil, List.length_cons, Nat.zero_le, Nat.reduceAdd, Nat.reduceLeDiff, sh57k]
      refine r_both hm (by omega) (by omega) hV hR ?_
      simp (disch := omega) only [ia1, ia2, ia3, ia4, inn, inm, i10, i01, i0n, i1n, i0m, i1m, o_push, o_iload, o_aload, o_istore, o_iinc, o_iadd, o_isub, o_imul, o_iand, o_ior, o_ixor, o_ishl, o_ishr, o_iushr, o_idiv, o_irem, o_ineg, o_dup, o_dup2, o_pop, o_if_eq, o_if_ne, o_if_lt, o_if_ge, o_if_gt, o_if_le, o_icmp_eq, o_icmp_ne, o_icmp_lt, o_icmp_ge, o_icmp_gt, o_icmp_le, o_nonnull, o_lsw2, o_iret, o_zret, o_vret, o_cV0, o_cV1, o_cV2, o_cV3, o_cV4, o_cV5, o_cV6, o_cS1, o_cS2, o_cS3, o_cS4, lg, lset, inB, pushv, c1, okr, at_, List.replicate, true_and, and_true, true_or, or_true, eq_self, forall_const, not_true_eq_false, not_false_eq_true, forall_eq, false_implies, true_implies,  List.length_nil, List.length_cons, Nat.zero_le, Nat.reduceAdd, Nat.reduceLeDiff, gM10, fa_or, gM8, ldI sh64, hBb]
      rw [rbw, if_pos hok]
      refine r_place ?_
      have hplt := Nat.lt_of_lt_of_le (plc_lt (s := s ||| b) (l := famS V b) (t := t + tk V l (famS V b)) (by omega) (by omega)) (Nat.mul_le_mul_right 1320 (show (s ||| b) + 1 ≤ fullS V + 1 by omega))
      simp (disch := omega) only [ia1, ia2, ia3, ia4, inn, inm, i10, i01, i0n, i1n, i0m, i1m, o_push, o_iload, o_aload, o_istore, o_iinc, o_iadd, o_isub, o_imul, o_iand, o_ior, o_ixor, o_ishl, o_ishr, o_iushr, o_idiv, o_irem, o_ineg, o_dup, o_dup2, o_pop, o_if_eq, o_if_ne, o_if_lt, o_if_ge, o_if_gt, o_if_le, o_icmp_eq, o_icmp_ne, o_icmp_lt, o_icmp_ge, o_icmp_gt, o_icmp_le, o_nonnull, o_lsw2, o_iret, o_zret, o_vret, o_cV0, o_cV1, o_cV2, o_cV3, o_cV4, o_cV5, o_cV6, o_cS1, o_cS2, o_cS3, o_cS4, lg, lset, inB, pushv, c1, okr, at_, List.replicate, true_and, and_true, true_or, or_true, eq_self, forall_const, not_true_eq_false, not_false_eq_true, forall_eq, false_implies, true_implies,  List.length_nil, List.length_cons, Nat.zero_le, Nat.reduceAdd, Nat.reduceLeDiff, ldI sh66, hLb]
      have hMb := ML_bd (m := m) hV (left := sd (sd (fullS V) s) b) (g := famS V b) (t := t + tk V l (famS V b)) (sd_sub hleft) (by omega)
      have hbb : bth m V b (t + tk V l (famS V b)) ≤ 4200 := by
        have q1 := lateR_le (m := 0) (V := V) (S := b) (e := t + tk V l (famS V b)) (V 9)
        have q2 := lateR_le (m := 1) (V := V) (S := b) (e := t + tk V l (famS V b)) (V 9)
        have q3 : V 9 * (t + tk V l (famS V b)) ≤ 7 * 600 := Nat.mul_le_mul hV.2.2.2.2.1 (by omega)
        unfold bth
        split
        · omega
        · split
          · omega
          · split <;> omega
      refine r_together (by omega) (by omega) (by omega) ?_
      rw [show jn m (bth m V b (t + tk V l (famS V b))) (ML m V (sd (sd (fullS V) s) b) (famS V b) (t + tk V l (famS V b))) = mcand m V (sd (fullS V) s) l t b from rfl]
      have hmc : mcand m V (sd (fullS V) s) l t b ≤ 30000 := jn_le (by omega)
      simp (disch := omega) only [ia1, ia2, ia3, ia4, inn, inm, i10, i01, i0n, i1n, i0m, i1m, o_push, o_iload, o_aload, o_istore, o_iinc, o_iadd, o_isub, o_imul, o_iand, o_ior, o_ixor, o_ishl, o_ishr, o_iushr, o_idiv, o_irem, o_ineg, o_dup, o_dup2, o_pop, o_if_eq, o_if_ne, o_if_lt, o_if_ge, o_if_gt, o_if_le, o_icmp_eq, o_icmp_ne, o_icmp_lt, o_icmp_ge, o_icmp_gt, o_icmp_le, o_nonnull, o_lsw2, o_iret, o_zret, o_vret, o_cV0, o_cV1, o_cV2, o_cV3, o_cV4, o_cV5, o_cV6, o_cS1, o_cS2, o_cS3, o_cS4, lg, lset, inB, pushv, c1, okr, at_, List.replicate, true_and, and_true, true_or, or_true, eq_self, forall_const, not_true_eq_false, not_false_eq_true, forall_eq, false_implies, true_implies,  List.length_nil, List.length_cons, Nat.zero_le, Nat.reduceAdd, Nat.reduceLeDiff, nLe, n1, nI_add]
      refine ⟨fun y => ?_, fun y => ?_⟩
      · refine ih (b + 1) x _ _ (by omega) (by omega) hx (fun S hS hsd hlt => ?_) hex
        by_cases hSb : S = b
        · subst hSb; exact y
        · exact hmin S hS hsd (by omega)
      · refine ih (b + 1) _ _ _ (by omega) (by omega) (by omega) (fun S hS hsd hlt => ?_) (Or.inr ⟨b, hok, z, rfl⟩)
        by_cases hSb : S = b
        · subst hSb; exact Nat.le_refl _
        · have := hmin S hS hsd (by omega)
          omega
  · subst q
    rw [sub_self_sd _ hf, ML_0, if_neg q2] at h
    exact h
  · subst q
    rw [sub_self_sd _ hf, ML_0, if_pos q2] at h
    exact h
end LEASTM
