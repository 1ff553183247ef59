section BESTM
variable {G : Gp} {d : Nat} {Q : Option Value → Mem → Prop} {σ : Mem} {V : Nat → Nat} {m : Nat}
theorem CInv.fr {τ : Mem} (h : CInv σ V) (he : τ 65 = σ 65) : CInv τ V := by unfold CInv CB Clo; rw [he]; exact h
theorem neg1 : nI 0 + (-1) = (-1 : Int32) := by decide +kernel
set_option maxRecDepth 2000 in
theorem r_layLeast (hV : VOk V) (hm : m < 4) (hR : RAt σ V) (hB : BFt σ V) (hC : CInv σ V) (h : ∀ τ, (∀ a, a ≠ 66 → τ a = σ a) → ADone τ m V → Q (some (.int (nI (best m V)))) τ) : E G MX5_layLeast (d + 4) 0 [some (.ref 57), some (.int (nI m)), none, none, none] [] σ Q := by
  have hf := full_lt hV
  have hbd := full_bd hV
  have h2 : fullS V + 1 = 2 ^ V 9 := by have : 1 ≤ 2 ^ V 9 := Nat.one_le_two_pow; unfold fullS; omega
  obtain ⟨hCB, h990, hclo⟩ := id hC
  have fin : ∀ (τ : Mem) (x3 x4 : Option Value), (∀ a, a ≠ 66 → τ a = σ a) → ADone τ m V → E G MX5_layLeast (d + 4) 5 [some (.ref 57), some (.int (nI m)), some (.int (-1)), x3, x4] [] τ Q := by
    intro τ x3 x4 hfr hA
    have hneg : ((-1 : Int32) < 0) = True := by decide
    apply kX5_layLeast_5
    simp only [ia1, ia2, ia3, ia4, inn, inm, i10, i01, i0n, i1n, i0m, i1m, o_push, o_iload, o_aload, o_istore, o_iinc, o_iadd, o_isub, o_imul, o_iand, o_ior, o_ixor, o_ishl, o_ishr, o_iushr, o_idiv, o_irem, o_ineg, o_dup, o_dup2, o_pop, o_if_eq, o_if_ne, o_if_lt, o_if_ge, o_if_gt, o_if_le, o_icmp_eq, o_icmp_ne, o_icmp_lt, o_icmp_ge, o_icmp_gt, o_icmp_le, o_nonnull, o_lsw2, o_iret, o_zret, o_vret, o_cV0, o_cV1, o_cV2, o_cV3, o_cV4, o_cV5, o_cV6, o_cS1, o_cS2, o_cS3, o_cS4, lg, lset, inB, pushv, c1, okr, at_, List.replicate, true_and, and_true, true_or, or_true, eq_self, forall_const, not_true_eq_false, not_false_eq_true, forall_eq, false_implies, true_implies,  List.length_nil, List.length_cons, Nat.zero_le, Nat.reduceAdd, Nat.reduceLeDiff, hneg, gM10]
    rw [n0, n3]
    refine r_place ?_
    rw [show plc 0 3 0 = 990 from rfl]
    have h9 := hA 990 (by omega) (by rw [hfr 65 (by omega)]; exact h990)
    have e : mlq m V 990 = best m V := by
      unfold mlq best ML
      rw [show (990 : Nat) / 1320 = 0 from rfl, sd_zero _ hf, show (990 : Nat) / 330 % 4 = 3 from rfl, show (990 : Nat) % 330 = 0 from rfl]
      split
      · rename_i hm2; rw [hm2]; simp
      · rfl
    rw [e] at h9
    simp (disch := omega) only [ia1, ia2, ia3, ia4, inn, inm, i10, i01, i0n, i1n, i0m, i1m, o_push, o_iload, o_aload, o_istore, o_iinc, o_iadd, o_isub, o_imul, o_iand, o_ior, o_ixor, o_ishl, o_ishr, o_iushr, o_idiv, o_irem, o_ineg, o_dup, o_dup2, o_pop, o_if_eq, o_if_ne, o_if_lt, o_if_ge, o_if_gt, o_if_le, o_icmp_eq, o_icmp_ne, o_icmp_lt, o_icmp_ge, o_icmp_gt, o_icmp_le, o_nonnull, o_lsw2, o_iret, o_zret, o_vret, o_cV0, o_cV1, o_cV2, o_cV3, o_cV4, o_cV5, o_cV6, o_cS1, o_cS2, o_cS3, o_cS4, lg, lset, inB, pushv, c1, okr, at_, List.replicate, true_and, and_true, true_or, or_true, eq_self, forall_const, not_true_eq_false, not_false_eq_true, forall_eq, false_implies, true_implies,  List.length_nil, List.length_cons, Nat.zero_le, Nat.reduceAdd, Nat.reduceLeDiff, ldI sh66, h9]
    exact h τ hfr hA
  -- one set
  have one : ∀ s (τ : Mem) (x3 x4 : Option Value), s ≤ fullS V → (∀ a, a ≠ 66 → τ a = σ a) → (∀ q, q < (fullS V + 1) * 1320 → τ 65 q = 1 → s < q / 1320 → τ 66 q = nI (mlq m V q)) →
      (∀ (τ : Mem) (x3 x4 : Option Value), (∀ a, a ≠ 66 → τ a = σ a) → (∀ q, q < (fullS V + 1) * 1320 → τ 65 q = 1 → s ≤ q / 1320 → τ 66 q = nI (mlq m V q)) → E G MX5_layLeast (d + 4) 5 [some (.ref 57), some (.int (nI m)), some (.int (nI s + (-1))), x3, x4] [] τ Q) →
      E G MX5_layLeast (d + 4) 5 [some (.ref 57), some (.int (nI m)), some (.int (nI s)), x3, x4] [] τ Q := by
    intro s τ x3 x4 hs hfr hD K
    apply kX5_layLeast_5
    simp (disch := omega) only [ia1, ia2, ia3, ia4, inn, inm, i10, i01, i0n, i1n, i0m, i1m, o_push, o_iload, o_aload, o_istore, o_iinc, o_iadd, o_isub, o_imul, o_iand, o_ior, o_ixor, o_ishl, o_ishr, o_iushr, o_idiv, o_irem, o_ineg, o_dup, o_dup2, o_pop, o_if_eq, o_if_ne, o_if_lt, o_if_ge, o_if_gt, o_if_le, o_icmp_eq, o_icmp_ne, o_icmp_lt, o_icmp_ge, o_icmp_gt, o_icmp_le, o_nonnull, o_lsw2, o_iret, o_zret, o_vret, o_cV0, o_cV1, o_cV2, o_cV3, o_cV4, o_cV5, o_cV6, o_cS1, o_cS2, o_cS3, o_cS4, lg, lset, inB, pushv, c1, okr, at_, List.replicate, true_and, and_true, true_or, or_true, eq_self, forall_const, not_true_eq_false, not_false_eq_true, forall_eq, false_implies, true_implies,  List.length_nil, List.length_cons, Nat.zero_le, Nat.reduceAdd, Nat.reduceLeDiff, n0, nLt, Nat.not_lt_zero]
    suffices H11 : ∀ k2 l (τ : Mem) (x4 : Option Value), k2 + l = 4 → (∀ a, a ≠ 66 → τ a = σ a) → (∀ q, q < (fullS V + 1) * 1320 → τ 65 q = 1 → (s < q / 1320 ∨ (q / 1320 = s ∧ q < plc s l 0)) → τ 66 q = nI (mlq m V q)) → E G MX5_layLeast (d + 4) 11 [some (.ref 57), some (.int (nI m)), some (.int (nI s)), some (.int (nI l)), x4] [] τ Q from
      H11 4 0 τ x4 (by omega) hfr (fun q hq hc hz => hD q hq hc (by rcases hz with z | z; exact z; exact absurd z.2 (by unfold plc; omega)))
    intro k2
    induction k2 with
    | zero =>
      intro l τ x4 hl hfr hD
      obtain rfl : l = 4 := by omega
      apply kX5_layLeast_11
      simp (disch := omega) only [ia1, ia2, ia3, ia4, inn, inm, i10, i01, i0n, i1n, i0m, i1m, o_push, o_iload, o_aload, o_istore, o_iinc, o_iadd, o_isub, o_imul, o_iand, o_ior, o_ixor, o_ishl, o_ishr, o_iushr, o_idiv, o_irem, o_ineg, o_dup, o_dup2, o_pop, o_if_eq, o_if_ne, o_if_lt, o_if_ge, o_if_gt, o_if_le, o_icmp_eq, o_icmp_ne, o_icmp_lt, o_icmp_ge, o_icmp_gt, o_icmp_le, o_nonnull, o_lsw2, o_iret, o_zret, o_vret, o_cV0, o_cV1, o_cV2, o_cV3, o_cV4, o_cV5, o_cV6, o_cS1, o_cS2, o_cS3, o_cS4, lg, lset, inB, pushv, c1, okr, at_, List.replicate, true_and, and_true, true_or, or_true, eq_self, forall_const, not_true_eq_false, not_false_eq_true, forall_eq, false_implies, true_implies,  List.length_nil, List.length_cons, Nat.zero_le, Nat.reduceAdd, Nat.reduceLeDiff, n3, nLt]
      refine ⟨fun _ => K τ _ _ hfr (fun q hq hc hz => hD q hq hc ?_), fun q => absurd (by omega) q⟩
      unfold plc
      omega
    | succ k2 ih11 =>
      intro l τ x4 hl hfr hD
      apply kX5_layLeast_11
      simp (disch := omega) only [ia1, ia2, ia3, ia4, inn, inm, i10, i01, i0n, i1n, i0m, i1m, o_push, o_iload, o_aload, o_istore, o_iinc, o_iadd, o_isub, o_imul, o_iand, o_ior, o_ixor, o_ishl, o_ishr, o_iushr, o_idiv, o_irem, o_ineg, o_dup, o_dup2, o_pop, o_if_eq, o_if_ne, o_if_lt, o_if_ge, o_if_gt, o_if_le, o_icmp_eq, o_icmp_ne, o_icmp_lt, o_icmp_ge, o_icmp_gt, o_icmp_le, o_nonnull, o_lsw2, o_iret, o_zret, o_vret, o_cV0, o_cV1, o_cV2, o_cV3, o_cV4, o_cV5, o_cV6, o_cS1, o_cS2, o_cS3, o_cS4, lg, lset, inB, pushv, c1, okr, at_, List.replicate, true_and, and_true, true_or, or_true, eq_self, forall_const, not_true_eq_false, not_false_eq_true, forall_eq, false_implies, true_implies,  List.length_nil, List.length_cons, Nat.zero_le, Nat.reduceAdd, Nat.reduceLeDiff, n3, nLt, n0]
      refine ⟨fun q => absurd q (by omega), fun _ => ?_⟩
      suffices H19 : ∀ k3 t (τ : Mem), k3 + t = 330 → (∀ a, a ≠ 66 → τ a = σ a) → (∀ q, q < (fullS V + 1) * 1320 → τ 65 q = 1 → (s < q / 1320 ∨ (q / 1320 = s ∧ q < plc s l t)) → τ 66 q = nI (mlq m V q)) → E G MX5_layLeast (d + 4) 19 [some (.ref 57), some (.int (nI m)), some (.int (nI s)), some (.int (nI l)), some (.int (nI t))] [] τ Q from
        H19 330 0 τ (by omega) hfr hD
      intro k3
      induction k3 with
      | zero =>
        intro t τ ht hfr hD
        obtain rfl : t = 330 := by omega
        apply kX5_layLeast_19
        simp (disch := omega) only [ia1, ia2, ia3, ia4, inn, inm, i10, i01, i0n, i1n, i0m, i1m, o_push, o_iload, o_aload, o_istore, o_iinc, o_iadd, o_isub, o_imul, o_iand, o_ior, o_ixor, o_ishl, o_ishr, o_iushr, o_idiv, o_irem, o_ineg, o_dup, o_dup2, o_pop, o_if_eq, o_if_ne, o_if_lt, o_if_ge, o_if_gt, o_if_le, o_icmp_eq, o_icmp_ne, o_icmp_lt, o_icmp_ge, o_icmp_gt, o_icmp_le, o_nonnull, o_lsw2, o_iret, o_zret, o_vret, o_cV0, o_cV1, o_cV2, o_cV3, o_cV4, o_cV5, o_cV6, o_cS1, o_cS2, o_cS3, o_cS4, lg, lset, inB, pushv, c1, okr, at_, List.replicate, true_and, and_true, true_or, or_true, eq_self, forall_const, not_true_eq_false, not_false_eq_true, forall_eq, false_implies, true_implies,  List.length_nil, List.length_cons, Nat.zero_le, Nat.reduceAdd, Nat.reduceLeDiff, n330, nLe, Nat.le_refl, n1, nI_add]
        refine ih11 (l + 1) τ _ (by omega) hfr (fun q hq hc hz => hD q hq hc ?_)
        rw [show plc s l 330 = plc s (l + 1) 0 by unfold plc; omega]
        exact hz
      | succ k3 ih19 =>
        intro t τ ht hfr hD
        have hRt : RAt τ V := hR.fr (hfr 58 (by omega))
        have hBt : BFt τ V := hB.fr (hfr 64 (by omega))
        have h65 : τ 65 = σ 65 := hfr 65 (by omega)
        have hpl := plc_lt (s := s) (l := l) (t := t) (by omega) (by omega)
        have hpN : plc s l t < (fullS V + 1) * 1320 := Nat.lt_of_lt_of_le hpl (Nat.mul_le_mul_right 1320 (by omega))
        have e1 := plc_s (s := s) (l := l) (t := t) (by omega) (by omega)
        have e2 := plc_l (s := s) (l := l) (t := t) (by omega) (by omega)
        have e3 := plc_t (s := s) (l := l) (t := t) (by omega)
        have hstep : plc s l (t + 1) = plc s l t + 1 := rfl
        apply kX5_layLeast_19
        simp (disch := omega) only [ia1, ia2, ia3, ia4, inn, inm, i10, i01, i0n, i1n, i0m, i1m, o_push, o_iload, o_aload, o_istore, o_iinc, o_iadd, o_isub, o_imul, o_iand, o_ior, o_ixor, o_ishl, o_ishr, o_iushr, o_idiv, o_irem, o_ineg, o_dup, o_dup2, o_pop, o_if_eq, o_if_ne, o_if_lt, o_if_ge, o_if_gt, o_if_le, o_icmp_eq, o_icmp_ne, o_icmp_lt, o_icmp_ge, o_icmp_gt, o_icmp_le, o_nonnull, o_lsw2, o_iret, o_zret, o_vret, o_cV0, o_cV1, o_cV2, o_cV3, o_cV4, o_cV5, o_cV6, o_cS1, o_cS2, o_cS3, o_cS4, lg, lset, inB, pushv, c1, okr, at_, List.replicate, true_and, and_true, true_or, or_true, eq_self, forall_const, not_true_eq_false, not_false_eq_true, forall_eq, false_implies, true_implies,  List.length_nil, List.length_cons, Nat.zero_le, Nat.reduceAdd, Nat.reduceLeDiff, n330, nLe, gM9]
        refine ⟨fun q => absurd q (by omega), fun _ => r_place ?_⟩
        simp (disch := omega) only [ia1, ia2, ia3, ia4, inn, inm, i10, i01, i0n, i1n, i0m, i1m, o_push, o_iload, o_aload, o_istore, o_iinc, o_iadd, o_isub, o_imul, o_iand, o_ior, o_ixor, o_ishl, o_ishr, o_iushr, o_idiv, o_irem, o_ineg, o_dup, o_dup2, o_pop, o_if_eq, o_if_ne, o_if_lt, o_if_ge, o_if_gt, o_if_le, o_icmp_eq, o_icmp_ne, o_icmp_lt, o_icmp_ge, o_icmp_gt, o_icmp_le, o_nonnull, o_lsw2, o_iret, o_zret, o_vret, o_cV0, o_cV1, o_cV2, o_cV3, o_cV4, o_cV5, o_cV6, o_cS1, o_cS2, o_cS3, o_cS4, lg, lset, inB, pushv, c1, okr, at_, List.replicate, true_and, and_true, true_or, or_true, eq_self, forall_const, not_true_eq_false, not_false_eq_true, forall_eq, false_implies, true_implies,  List.length_nil, List.length_cons, Nat.zero_le, Nat.reduceAdd, Nat.reduceLeDiff, ldZ sh65, n1, nI_add, gM10]
        rw [h65]
        rcases hCB (plc s l t) hpN with hz | ⟨hz, hzt⟩
        · rw [hz]
          refine ⟨fun _ => ih19 (t + 1) τ (by omega) hfr (fun q hq hc hzz => ?_), fun q => absurd rfl q⟩
          by_cases hqp : q = plc s l t
          · rw [h65, hqp, hz] at hc; exact absurd hc (by decide)
          · exact hD q hq hc (by rw [hstep] at hzz; omega)
        · rw [hz]
          rw [e1, e3] at hzt
          refine ⟨fun q => absurd q (by decide), fun _ => r_place ?_⟩
          simp only [ia1, ia2, ia3, ia4, inn, inm, i10, i01, i0n, i1n, i0m, i1m, o_push, o_iload, o_aload, o_istore, o_iinc, o_iadd, o_isub, o_imul, o_iand, o_ior, o_ixor, o_ishl, o_ishr, o_iushr, o_idiv, o_irem, o_ineg, o_dup, o_dup2, o_pop, o_if_eq, o_if_ne, o_if_lt, o_if_ge, o_if_gt, o_if_le, o_icmp_eq, o_icmp_ne, o_icmp_lt, o_icmp_ge, o_icmp_gt, o_icmp_le, o_nonnull, o_lsw2, o_iret, o_zret, o_vret, o_cV0, o_cV1, o_cV2, o_cV3, o_cV4, o_cV5, o_cV6, o_cS1, o_cS2, o_cS3, o_cS4, lg, lset, inB, pushv, c1, okr, at_, List.replicate, true_and, and_true, true_or, or_true, eq_self, forall_const, not_true_eq_false, not_false_eq_true, forall_eq, false_implies, true_implies,  List.length_nil, List.length_cons, Nat.zero_le, Nat.reduceAdd, Nat.reduceLeDiff, sh57k]
          refine r_leastFrom hV hm hRt hBt (by omega) (by omega) hzt (fun b hb hbs => ?_) ?_
          · have hs7 : s < 128 := by omega
            have hb7 := okB_lt hV hb
            have hf3 := famS_lt hV hb.1 hb.2.1
            have hk := tk_le hV l (famS V b)
            have hpo := pc_or s hs7 b hb7 hb.1 hbs
            have hgt := or_gt s hs7 b hb7 hb.1 hbs
            have hsb : s ||| b < 2 ^ V 9 := Nat.or_lt_two_pow (by omega) hb.2.1
            have hp7 := pc_7 (s ||| b) (by omega)
            have g1 := plc_s (s := s ||| b) (l := famS V b) (t := t + tk V l (famS V b)) (by omega) (by omega)
            have g2 := plc_l (s := s ||| b) (l := famS V b) (t := t + tk V l (famS V b)) (by omega) (by omega)
            have g3 := plc_t (s := s ||| b) (l := famS V b) (t := t + tk V l (famS V b)) (by omega)
            have hplt := Nat.lt_of_lt_of_le (plc_lt (s := s ||| b) (l := famS V b) (t := t + tk V l (famS V b)) (by omega) (by omega)) (Nat.mul_le_mul_right 1320 (show (s ||| b) + 1 ≤ fullS V + 1 by omega))
            have hmk := hclo (plc s l t) hpN hz b hb (by rw [e1]; exact hbs)
            rw [e1, e2, e3] at hmk
            have := hD _ hplt (by rw [h65]; exact hmk) (Or.inl (by rw [g1]; exact hgt))
            unfold mlq at this
            rw [g1, g2, g3, left_or hV hs7 hb7] at this
            exact this
          · simp (disch := omega) only [ia1, ia2, ia3, ia4, inn, inm, i10, i01, i0n, i1n, i0m, i1m, o_push, o_iload, o_aload, o_istore, o_iinc, o_iadd, o_isub, o_imul, o_iand, o_ior, o_ixor, o_ishl, o_ishr, o_iushr, o_idiv, o_irem, o_ineg, o_dup, o_dup2, o_pop, o_if_eq, o_if_ne, o_if_lt, o_if_ge, o_if_gt, o_if_le, o_icmp_eq, o_icmp_ne, o_icmp_lt, o_icmp_ge, o_icmp_gt, o_icmp_le, o_nonnull, o_lsw2, o_iret, o_zret, o_vret, o_cV0, o_cV1, o_cV2, o_cV3, o_cV4, o_cV5, o_cV6, o_cS1, o_cS2, o_cS3, o_cS4, lg, lset, inB, pushv, c1, okr, at_, List.replicate, true_and, and_true, true_or, or_true, eq_self, forall_const, not_true_eq_false, not_false_eq_true, forall_eq, false_implies, true_implies,  List.length_nil, List.length_cons, Nat.zero_le, Nat.reduceAdd, Nat.reduceLeDiff, stI sh66, n1, nI_add]
            refine ih19 (t + 1) _ (by omega) (fun a ha => by rw [wr_o ha]; exact hfr a ha) (fun q hq hc hzz => ?_)
            by_cases hqp : q = plc s l t
            · subst hqp
              rw [wr_s]
              unfold mlq
              rw [e1, e2, e3]
            · rw [wr_n (by omega)]
              rw [wr_o (by omega)] at hc
              exact hD q hq hc (by rw [hstep] at hzz; omega)
  apply kX5_layLeast_0
  simp only [ia1, ia2, ia3, ia4, inn, inm, i10, i01, i0n, i1n, i0m, i1m, o_push, o_iload, o_aload, o_istore, o_iinc, o_iadd, o_isub, o_imul, o_iand, o_ior, o_ixor, o_ishl, o_ishr, o_iushr, o_idiv, o_irem, o_ineg, o_dup, o_dup2, o_pop, o_if_eq, o_if_ne, o_if_lt, o_if_ge, o_if_gt, o_if_le, o_icmp_eq, o_icmp_ne, o_icmp_lt, o_icmp_ge, o_icmp_gt, o_icmp_le, o_nonnull, o_lsw2, o_iret, o_zret, o_vret, o_cV0, o_cV1, o_cV2, o_cV3, o_cV4, o_cV5, o_cV6, o_cS1, o_cS2, o_cS3, o_cS4, lg, lset, inB, pushv, c1, okr, at_, List.replicate, true_and, and_true, true_or, or_true, eq_self, forall_const, not_true_eq_false, not_false_eq_true, forall_eq, false_implies, true_implies,  List.length_nil, List.length_cons, Nat.zero_le, Nat.reduceAdd, Nat.reduceLeDiff, sh57k]
  refine r_full hV hR ?_
  simp only [ia1, ia2, ia3, ia4, inn, inm, i10, i01, i0n, i1n, i0m, i1m, o_push, o_iload, o_aload, o_istore, o_iinc, o_iadd, o_isub, o_imul, o_iand, o_ior, o_ixor, o_ishl, o_ishr, o_iushr, o_idiv, o_irem, o_ineg, o_dup, o_dup2, o_pop, o_if_eq, o_if_ne, o_if_lt, o_if_ge, o_if_gt, o_if_le, o_icmp_eq, o_icmp_ne, o_icmp_lt, o_icmp_ge, o_icmp_gt, o_icmp_le, o_nonnull, o_lsw2, o_iret, o_zret, o_vret, o_cV0, o_cV1, o_cV2, o_cV3, o_cV4, o_cV5, o_cV6, o_cS1, o_cS2, o_cS3, o_cS4, lg, lset, inB, pushv, c1, okr, at_, List.replicate, true_and, and_true, true_or, or_true, eq_self, forall_const, not_true_eq_false, not_false_eq_true, forall_eq, false_implies, true_implies,  List.length_nil, List.length_cons, Nat.zero_le, Nat.reduceAdd, Nat.reduceLeDiff]
  suffices H5 : ∀ s (τ : Mem) (x3 x4 : Option Value), s ≤ fullS V → (∀ a, a ≠ 66 → τ a = σ a) → (∀ q, q < (fullS V + 1) * 1320 → τ 65 q = 1 → s < q / 1320 → τ 66 q = nI (mlq m V q)) → E G MX5_layLeast (d + 4) 5 [some (.ref 57), some (.int (nI m)), some (.int (nI s)), x3, x4] [] τ Q from
    H5 (fullS V) σ _ _ (Nat.le_refl _) (fun _ _ => rfl) (fun q hq _ hs => by omega)
  intro s
  induction s with
  | zero =>
    intro τ x3 x4 hs hfr hD
    refine one 0 τ x3 x4 hs hfr hD (fun τ2 y3 y4 f2 hD2 => ?_)
    rw [neg1]
    exact fin τ2 y3 y4 f2 (fun q hq hc => hD2 q hq hc (Nat.zero_le _))
  | succ s ih =>
    intro τ x3 x4 hs hfr hD
    refine one (s + 1) τ x3 x4 hs hfr hD (fun τ2 y3 y4 f2 hD2 => ?_)
    rw [pk_m1]
    exact ih τ2 y3 y4 (by omega) f2 (fun q hq hc hz => hD2 q hq hc (by omega))
/-- all tables stand -/
def MTab (σ : Mem) (m : Nat) (V : Nat → Nat) : Prop := BFt σ V ∧ CInv σ V ∧ ADone σ m V
theorem r_bestOf (hV : VOk V) (hm : m < 4) (hR : RAt σ V) (h : ∀ τ, (∀ a, (a < 64 ∨ 66 < a) → τ a = σ a) → MTab τ m V → Q (some (.int (nI (best m V)))) τ) : E G MX5_bestOf (d + 5) 0 [some (.ref 57), some (.int (nI m))] [] σ Q := by
  apply kX5_bestOf_0
  simp only [ia1, ia2, ia3, ia4, inn, inm, i10, i01, i0n, i1n, i0m, i1m, o_push, o_iload, o_aload, o_istore, o_iinc, o_iadd, o_isub, o_imul, o_iand, o_ior, o_ixor, o_ishl, o_ishr, o_iushr, o_idiv, o_irem, o_ineg, o_dup, o_dup2, o_pop, o_if_eq, o_if_ne, o_if_lt, o_if_ge, o_if_gt, o_if_le, o_icmp_eq, o_icmp_ne, o_icmp_lt, o_icmp_ge, o_icmp_gt, o_icmp_le, o_nonnull, o_lsw2, o_iret, o_zret, o_vret, o_cV0, o_cV1, o_cV2, o_cV3, o_cV4, o_cV5, o_cV6, o_cS1, o_cS2, o_cS3, o_cS4, lg, lset, inB, pushv, c1, okr, at_, List.replicate, true_and, and_true, true_or, or_true, eq_self, forall_const, not_true_eq_false, not_false_eq_true, forall_eq, false_implies, true_implies,  List.length_nil, List.length_cons, Nat.zero_le, Nat.reduceAdd, Nat.reduceLeDiff, sh57k]
  refine r_layBatches hV hR (fun τ f1 hB => ?_)
  have hR1 : RAt τ V := hR.fr (f1 58 (by omega))
  simp only [ia1, ia2, ia3, ia4, inn, inm, i10, i01, i0n, i1n, i0m, i1m, o_push, o_iload, o_aload, o_istore, o_iinc, o_iadd, o_isub, o_imul, o_iand, o_ior, o_ixor, o_ishl, o_ishr, o_iushr, o_idiv, o_irem, o_ineg, o_dup, o_dup2, o_pop, o_if_eq, o_if_ne, o_if_lt, o_if_ge, o_if_gt, o_if_le, o_icmp_eq, o_icmp_ne, o_icmp_lt, o_icmp_ge, o_icmp_gt, o_icmp_le, o_nonnull, o_lsw2, o_iret, o_zret, o_vret, o_cV0, o_cV1, o_cV2, o_cV3, o_cV4, o_cV5, o_cV6, o_cS1, o_cS2, o_cS3, o_cS4, lg, lset, inB, pushv, c1, okr, at_, List.replicate, true_and, and_true, true_or, or_true, eq_self, forall_const, not_true_eq_false, not_false_eq_true, forall_eq, false_implies, true_implies,  List.length_nil, List.length_cons, Nat.zero_le, Nat.reduceAdd, Nat.reduceLeDiff, sh57k]
  refine r_markAll hV hR1 hB (fun τ2 f2 hC => ?_)
  have hR2 : RAt τ2 V := hR1.fr (f2 58 (by omega))
  simp only [ia1, ia2, ia3, ia4, inn, inm, i10, i01, i0n, i1n, i0m, i1m, o_push, o_iload, o_aload, o_istore, o_iinc, o_iadd, o_isub, o_imul, o_iand, o_ior, o_ixor, o_ishl, o_ishr, o_iushr, o_idiv, o_irem, o_ineg, o_dup, o_dup2, o_pop, o_if_eq, o_if_ne, o_if_lt, o_if_ge, o_if_gt, o_if_le, o_icmp_eq, o_icmp_ne, o_icmp_lt, o_icmp_ge, o_icmp_gt, o_icmp_le, o_nonnull, o_lsw2, o_iret, o_zret, o_vret, o_cV0, o_cV1, o_cV2, o_cV3, o_cV4, o_cV5, o_cV6, o_cS1, o_cS2, o_cS3, o_cS4, lg, lset, inB, pushv, c1, okr, at_, List.replicate, true_and, and_true, true_or, or_true, eq_self, forall_const, not_true_eq_false, not_false_eq_true, forall_eq, false_implies, true_implies,  List.length_nil, List.length_cons, Nat.zero_le, Nat.reduceAdd, Nat.reduceLeDiff, sh57k]
  refine r_layLeast hV hm hR2 (hB.fr (f2 64 (by omega))) hC (fun τ3 f3 hA => ?_)
  simp only [ia1, ia2, ia3, ia4, inn, inm, i10, i01, i0n, i1n, i0m, i1m, o_push, o_iload, o_aload, o_istore, o_iinc, o_iadd, o_isub, o_imul, o_iand, o_ior, o_ixor, o_ishl, o_ishr, o_iushr, o_idiv, o_irem, o_ineg, o_dup, o_dup2, o_pop, o_if_eq, o_if_ne, o_if_lt, o_if_ge, o_if_gt, o_if_le, o_icmp_eq, o_icmp_ne, o_icmp_lt, o_icmp_ge, o_icmp_gt, o_icmp_le, o_nonnull, o_lsw2, o_iret, o_zret, o_vret, o_cV0, o_cV1, o_cV2, o_cV3, o_cV4, o_cV5, o_cV6, o_cS1, o_cS2, o_cS3, o_cS4, lg, lset, inB, pushv, c1, okr, at_, List.replicate, true_and, and_true, true_or, or_true, eq_self, forall_const, not_true_eq_false, not_false_eq_true, forall_eq, false_implies, true_implies,  List.length_nil, List.length_cons, Nat.zero_le, Nat.reduceAdd, Nat.reduceLeDiff]
  exact h τ3 (fun a ha => by rw [f3 a (by omega), f2 a (by omega), f1 a (by omega)]) ⟨(hB.fr (f2 64 (by omega))).fr (f3 64 (by omega)), hC.fr (f3 65 (by omega)), hA⟩
end BESTM
