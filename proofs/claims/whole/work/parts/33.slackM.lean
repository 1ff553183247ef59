/-! the reference's slack -/
theorem BFt_ag {σ : Mem} {V V' : Nat → Nat} (ag : ∀ k, k < 24 → V k = V' k) (h9 : V 9 ≤ 7) (h : BFt σ V) : BFt σ V' := by
  intro S hS
  rw [← ag 9 (by omega)] at hS
  rw [h S hS]
  unfold rbw
  by_cases hk : okB V S
  · rw [if_pos hk, if_pos ((ag_okB ag h9 S).mp hk), ag_famS ag h9]
  · rw [if_neg hk, if_neg (fun z => hk ((ag_okB ag h9 S).mpr z))]
theorem CInv_ag {σ : Mem} {V V' : Nat → Nat} (ag : ∀ k, k < 24 → V k = V' k) (h9 : V 9 ≤ 7) (h : CInv σ V) : CInv σ V' := by
  have e9 : fullS V' = fullS V := by unfold fullS; rw [ag 9 (by omega)]
  obtain ⟨h1, h2, h3⟩ := h
  refine ⟨?_, h2, ?_⟩
  · intro q hq; rw [e9] at hq; exact h1 q hq
  · intro q hq hm b hb hbs
    rw [e9] at hq
    have := h3 q hq hm b ((ag_okB ag h9 b).mpr hb) hbs
    rw [ag_famS ag h9, ag_tk ag] at this
    exact this
theorem gcSub : ∀ g, g < 101 → ∀ c, c < 101 → c ≤ g → nI g - (nI c - 1) = nI (g - c + 1) := by decide +kernel
theorem gcAdd : ∀ g, g < 101 → ∀ c, c < 101 → 1 ≤ g → nI g + (nI c - 1) = nI (g + c - 1) := by decide +kernel
theorem gcOne : ∀ g, g < 101 → nI (g + 1) - 1 = nI g := by decide +kernel
section SLACKM
variable {G : Gp} {d : Nat} {Q : Option Value → Mem → Prop} {σ : Mem} {V : Nat → Nat} {m : Nat}
theorem RAt_due {j x : Nat} (hj : j < 7) (h : RAt σ V) : RAt (wr σ 58 (24 + j) (nI x)) (upN V (24 + j) x) := by
  intro k hk
  unfold upN
  by_cases hkj : k = 24 + j
  · subst hkj; rw [wr_s, if_pos rfl]
  · rw [wr_n (by omega), if_neg hkj]; exact h k hk
theorem r_isAsGood {j x bs : Nat} (hV : VOk V) (hm : m < 4) (hj : j < V 9) (hx : x ≤ 99) (hbs : bs < 100000) (hR : RAt σ V) (hB : BFt σ V) (hC : CInv σ V)
    (h1 : best m (upN V (24 + j) x) = bs → ∀ τ, (∀ a, a ≠ 58 → a ≠ 66 → τ a = σ a) → RAt τ V → Q (some (.int 1)) τ) (h0 : best m (upN V (24 + j) x) ≠ bs → ∀ τ, (∀ a, a ≠ 58 → a ≠ 66 → τ a = σ a) → RAt τ V → Q (some (.int 0)) τ) :
    E G MX5_isAsGood (d + 5) 0 [some (.ref 57), some (.int (nI m)), some (.int (nI bs)), some (.int (nI j)), some (.int (nI x)), none, none] [] σ Q := by
  have h7 := hV.2.2.2.2.1
  have ag : ∀ k, k < 24 → V k = upN V (24 + j) x k := fun k hk => (upN_ag V j x k hk).symm
  have hVx := VOk_due hV (show j < 7 by omega) hx
  have hbl := best_le (m := m) hVx
  apply kX5_isAsGood_0
  simp (disch := omega) only [ia1, ia2, ia3, ia4, inn, inm, i10, i01, i0n, i1n, i0m, i1m, o_push, o_iload, o_aload, o_istore, o_iinc, o_iadd, o_isub, o_imul, o_iand, o_ior, o_ixor, o_ishl, o_ishr, o_iushr, o_idiv, o_irem, o_ineg, o_dup, o_dup2, o_pop, o_if_eq, o_if_ne, o_if_lt, o_if_ge, o_if_gt, o_if_le, o_icmp_eq, o_icmp_ne, o_icmp_lt, o_icmp_ge, o_icmp_gt, o_icmp_le, o_nonnull, o_lsw2, o_iret, o_zret, o_vret, o_cV0, o_cV1, o_cV2, o_cV3, o_cV4, o_cV5, o_cV6, o_cS1, o_cS2, o_cS3, o_cS4, lg, lset, inB, pushv, c1, okr, at_, List.replicate, true_and, and_true, true_or, or_true, eq_self, forall_const, not_true_eq_false, not_false_eq_true, forall_eq, false_implies, true_implies,  List.length_nil, List.length_cons, Nat.zero_le, Nat.reduceAdd, Nat.reduceLeDiff, gM0, n24, nI_add, ldI sh58, stI sh58, hR _ (show 24 + j < 31 by omega), sh57k]
  refine r_layLeast hVx hm (RAt_due (by omega) hR) (BFt_ag ag h7 (hB.fr (wr_o (by omega)))) (CInv_ag ag h7 (hC.fr (wr_o (by omega)))) (fun τ f1 _ => ?_)
  have fin : RAt (wr τ 58 (24 + j) (nI (V (24 + j)))) V := by
    have := RAt_due (x := V (24 + j)) (show j < 7 by omega) ((RAt_due (x := x) (show j < 7 by omega) hR).fr (f1 58 (by omega)))
    rw [upN_upN, upN_self] at this
    exact this
  have frm : ∀ a, a ≠ 58 → a ≠ 66 → wr τ 58 (24 + j) (nI (V (24 + j))) a = σ a := fun a q1 q2 => by rw [wr_o q1, f1 a q2, wr_o q1]
  simp (disch := omega) only [ia1, ia2, ia3, ia4, inn, inm, i10, i01, i0n, i1n, i0m, i1m, o_push, o_iload, o_aload, o_istore, o_iinc, o_iadd, o_isub, o_imul, o_iand, o_ior, o_ixor, o_ishl, o_ishr, o_iushr, o_idiv, o_irem, o_ineg, o_dup, o_dup2, o_pop, o_if_eq, o_if_ne, o_if_lt, o_if_ge, o_if_gt, o_if_le, o_icmp_eq, o_icmp_ne, o_icmp_lt, o_icmp_ge, o_icmp_gt, o_icmp_le, o_nonnull, o_lsw2, o_iret, o_zret, o_vret, o_cV0, o_cV1, o_cV2, o_cV3, o_cV4, o_cV5, o_cV6, o_cS1, o_cS2, o_cS3, o_cS4, lg, lset, inB, pushv, c1, okr, at_, List.replicate, true_and, and_true, true_or, or_true, eq_self, forall_const, not_true_eq_false, not_false_eq_true, forall_eq, false_implies, true_implies,  List.length_nil, List.length_cons, Nat.zero_le, Nat.reduceAdd, Nat.reduceLeDiff, nEq, gM0, n24, nI_add, stI sh58]
  exact ⟨fun q => h0 q _ frm fin, fun q => h1 q _ frm fin⟩
def MFr (σ τ : Mem) : Prop := ∀ a, a < 57 → τ a = σ a
/-- what the reference shows of A -/
def InvM (σ : Mem) (A : ASt) : Prop := RAt σ A.1 ∧ (σ 57 4 = nI A.2.2.2.2.1 ∧ ∀ i, i < A.2.2.2.2.1 → σ 61 i = nI (A.2.2.2.2.2 i)) ∧ (A.2.2.2.1.testBit 0 = true → ∀ k, k < 31 → σ 59 k = nI (A.2.1 k)) ∧ (A.2.2.2.1.testBit 1 = true → ∀ k, k < 31 → σ 59 (31 + k) = nI (A.2.2.1 k)) ∧ σ 60 0 = (if A.2.2.2.1.testBit 0 = true then 1 else 0) ∧ σ 60 1 = (if A.2.2.2.1.testBit 1 = true then 1 else 0)
def AOk (A : ASt) : Prop := VOk A.1 ∧ (A.2.2.2.2.1 ≤ 14 ∧ ∀ i, i < A.2.2.2.2.1 → 33 ≤ A.2.2.2.2.2 i ∧ A.2.2.2.2.2 i ≤ 126) ∧ A.2.2.2.1 < 4
theorem InvM.fr {A : ASt} {τ : Mem} (h : InvM σ A) (h58 : RAt τ A.1) (h57 : τ 57 4 = σ 57 4) (hr : ∀ a, a = 59 ∨ a = 60 ∨ a = 61 → τ a = σ a) : InvM τ A := by
  obtain ⟨-, h2, h3, h4, h5, h6⟩ := h
  refine ⟨h58, ⟨by rw [h57]; exact h2.1, fun i hi => by rw [hr 61 (by omega)]; exact h2.2 i hi⟩, fun z k hk => by rw [hr 59 (by omega)]; exact h3 z k hk, fun z k hk => by rw [hr 59 (by omega)]; exact h4 z k hk, by rw [hr 60 (by omega)]; exact h5, by rw [hr 60 (by omega)]; exact h6⟩
theorem r_Xslack {A : ASt} {j mm : Int32} (hA : AOk A) (hI : InvM σ A) (h : ∀ τ, MFr σ τ → InvM τ A → Q (some (.int (opSlack A j mm))) τ) : E G MX5_slack (d + 20) 0 [some (.ref 57), some (.int j), some (.int mm), none, none, none, none, none] [] σ Q := by
  have hV := hA.1
  have hR := hI.1
  have h7 := hV.2.2.2.2.1
  apply kX5_slack_0
  simp only [ia1, ia2, ia3, ia4, inn, inm, i10, i01, i0n, i1n, i0m, i1m, o_push, o_iload, o_aload, o_istore, o_iinc, o_iadd, o_isub, o_imul, o_iand, o_ior, o_ixor, o_ishl, o_ishr, o_iushr, o_idiv, o_irem, o_ineg, o_dup, o_dup2, o_pop, o_if_eq, o_if_ne, o_if_lt, o_if_ge, o_if_gt, o_if_le, o_icmp_eq, o_icmp_ne, o_icmp_lt, o_icmp_ge, o_icmp_gt, o_icmp_le, o_nonnull, o_lsw2, o_iret, o_zret, o_vret, o_cV0, o_cV1, o_cV2, o_cV3, o_cV4, o_cV5, o_cV6, o_cS1, o_cS2, o_cS3, o_cS4, lg, lset, inB, pushv, c1, okr, at_, List.replicate, true_and, and_true, true_or, or_true, eq_self, forall_const, not_true_eq_false, not_false_eq_true, forall_eq, false_implies, true_implies,  List.length_nil, List.length_cons, Nat.zero_le, Nat.reduceAdd, Nat.reduceLeDiff, sh57k]
  refine r_isJob hR (fun q => ?_) (fun q => ?_)
  · simp only [ia1, ia2, ia3, ia4, inn, inm, i10, i01, i0n, i1n, i0m, i1m, o_push, o_iload, o_aload, o_istore, o_iinc, o_iadd, o_isub, o_imul, o_iand, o_ior, o_ixor, o_ishl, o_ishr, o_iushr, o_idiv, o_irem, o_ineg, o_dup, o_dup2, o_pop, o_if_eq, o_if_ne, o_if_lt, o_if_ge, o_if_gt, o_if_le, o_icmp_eq, o_icmp_ne, o_icmp_lt, o_icmp_ge, o_icmp_gt, o_icmp_le, o_nonnull, o_lsw2, o_iret, o_zret, o_vret, o_cV0, o_cV1, o_cV2, o_cV3, o_cV4, o_cV5, o_cV6, o_cS1, o_cS2, o_cS3, o_cS4, lg, lset, inB, pushv, c1, okr, at_, List.replicate, true_and, and_true, true_or, or_true, eq_self, forall_const, not_true_eq_false, not_false_eq_true, forall_eq, false_implies, true_implies,  List.length_nil, List.length_cons, Nat.zero_le, Nat.reduceAdd, Nat.reduceLeDiff]
    refine r_isMeasure (fun q2 => ?_) (fun q2 => ?_)
    · obtain ⟨j', hj, rfl⟩ := inJ h7 q
      obtain ⟨m', -, hm, rfl⟩ := inN (a := 0) (b := 3) (by omega) (by omega) (by rw [← n0, ← n3]; exact q2)
      rw [opSlack, if_neg (fun z => z q), if_neg (fun z => z q2), fI_n (by omega), fI_n (by omega)] at h
      have hd := (hV.2.2.2.2.2.1 j' (by omega)).2.2
      have hbl := best_le (m := m') hV
      simp only [ia1, ia2, ia3, ia4, inn, inm, i10, i01, i0n, i1n, i0m, i1m, o_push, o_iload, o_aload, o_istore, o_iinc, o_iadd, o_isub, o_imul, o_iand, o_ior, o_ixor, o_ishl, o_ishr, o_iushr, o_idiv, o_irem, o_ineg, o_dup, o_dup2, o_pop, o_if_eq, o_if_ne, o_if_lt, o_if_ge, o_if_gt, o_if_le, o_icmp_eq, o_icmp_ne, o_icmp_lt, o_icmp_ge, o_icmp_gt, o_icmp_le, o_nonnull, o_lsw2, o_iret, o_zret, o_vret, o_cV0, o_cV1, o_cV2, o_cV3, o_cV4, o_cV5, o_cV6, o_cS1, o_cS2, o_cS3, o_cS4, lg, lset, inB, pushv, c1, okr, at_, List.replicate, true_and, and_true, true_or, or_true, eq_self, forall_const, not_true_eq_false, not_false_eq_true, forall_eq, false_implies, true_implies,  List.length_nil, List.length_cons, Nat.zero_le, Nat.reduceAdd, Nat.reduceLeDiff, sh57k]
      refine r_bestOf (d := d + 14) hV (by omega) hR (fun σ1 f1 hT => ?_)
      have hR1 : RAt σ1 A.1 := hR.fr (f1 58 (by omega))
      simp (disch := omega) only [ia1, ia2, ia3, ia4, inn, inm, i10, i01, i0n, i1n, i0m, i1m, o_push, o_iload, o_aload, o_istore, o_iinc, o_iadd, o_isub, o_imul, o_iand, o_ior, o_ixor, o_ishl, o_ishr, o_iushr, o_idiv, o_irem, o_ineg, o_dup, o_dup2, o_pop, o_if_eq, o_if_ne, o_if_lt, o_if_ge, o_if_gt, o_if_le, o_icmp_eq, o_icmp_ne, o_icmp_lt, o_icmp_ge, o_icmp_gt, o_icmp_le, o_nonnull, o_lsw2, o_iret, o_zret, o_vret, o_cV0, o_cV1, o_cV2, o_cV3, o_cV4, o_cV5, o_cV6, o_cS1, o_cS2, o_cS3, o_cS4, lg, lset, inB, pushv, c1, okr, at_, List.replicate, true_and, and_true, true_or, or_true, eq_self, forall_const, not_true_eq_false, not_false_eq_true, forall_eq, false_implies, true_implies,  List.length_nil, List.length_cons, Nat.zero_le, Nat.reduceAdd, Nat.reduceLeDiff, gM0, n24, nI_add, ldI sh58, hR1 _ (show 24 + j' < 31 by omega)]
      suffices H : ∀ n g c (τ : Mem) (x7 : Option Value), g - c ≤ n → c ≤ g → g ≤ A.1 (24 + j') → best m' (upN A.1 (24 + j') g) = best m' A.1 → (∀ x, x < c → best m' (upN A.1 (24 + j') x) ≠ best m' A.1) → (∀ a, a ≠ 58 → (a < 64 ∨ 66 < a) → τ a = σ a) → RAt τ A.1 → BFt τ A.1 → CInv τ A.1 →
          E G MX5_slack (d + 20) 44 [some (.ref 57), some (.int (nI j')), some (.int (nI m')), some (.int (nI (best m' A.1))), some (.int (nI (A.1 (24 + j')))), some (.int (nI g)), some (.int (nI c - 1)), x7] [] τ Q by
        have := H (A.1 (24 + j')) (A.1 (24 + j')) 0 σ1 none (by omega) (by omega) (Nat.le_refl _) (by rw [upN_self]) (fun x hx => by omega) (fun a q1 q2 => f1 a q2) hR1 hT.1 hT.2.1
        rw [show nI 0 - 1 = (-1 : Int32) by decide +kernel] at this
        exact this
      intro n
      induction n with
      | zero =>
        intro g c τ x7 h1 h2 h3 h4 h5 hfr hRt hBt hCt
        obtain rfl : g = c := by omega
        have hld : ldue m' A.1 j' = g := ldue_eq h3 h4 (fun z hz => h5 z hz)
        rw [hld] at h
        have hc : nI g - (nI g - 1) ≤ 1 := by
          rw [gcSub g (by omega) g (by omega) (Nat.le_refl _), Nat.sub_self]
          decide
        apply kX5_slack_44
        simp (disch := omega) only [ia1, ia2, ia3, ia4, inn, inm, i10, i01, i0n, i1n, i0m, i1m, o_push, o_iload, o_aload, o_istore, o_iinc, o_iadd, o_isub, o_imul, o_iand, o_ior, o_ixor, o_ishl, o_ishr, o_iushr, o_idiv, o_irem, o_ineg, o_dup, o_dup2, o_pop, o_if_eq, o_if_ne, o_if_lt, o_if_ge, o_if_gt, o_if_le, o_icmp_eq, o_icmp_ne, o_icmp_lt, o_icmp_ge, o_icmp_gt, o_icmp_le, o_nonnull, o_lsw2, o_iret, o_zret, o_vret, o_cV0, o_cV1, o_cV2, o_cV3, o_cV4, o_cV5, o_cV6, o_cS1, o_cS2, o_cS3, o_cS4, lg, lset, inB, pushv, c1, okr, at_, List.replicate, true_and, and_true, true_or, or_true, eq_self, forall_const, not_true_eq_false, not_false_eq_true, forall_eq, false_implies, true_implies,  List.length_nil, List.length_cons, Nat.zero_le, Nat.reduceAdd, Nat.reduceLeDiff, hc, nSub]
        exact h τ (fun a ha => hfr a (by omega) (by omega)) (hI.fr hRt (by rw [hfr 57 (by omega) (by omega)]) (fun a ha => hfr a (by omega) (by omega)))
      | succ n ih =>
        intro g c τ x7 h1 h2 h3 h4 h5 hfr hRt hBt hCt
        by_cases hgc : g ≤ c
        · exact ih g c τ x7 (by omega) h2 h3 h4 h5 hfr hRt hBt hCt
        · apply kX5_slack_44
          simp only [ia1, ia2, ia3, ia4, inn, inm, i10, i01, i0n, i1n, i0m, i1m, o_push, o_iload, o_aload, o_istore, o_iinc, o_iadd, o_isub, o_imul, o_iand, o_ior, o_ixor, o_ishl, o_ishr, o_iushr, o_idiv, o_irem, o_ineg, o_dup, o_dup2, o_pop, o_if_eq, o_if_ne, o_if_lt, o_if_ge, o_if_gt, o_if_le, o_icmp_eq, o_icmp_ne, o_icmp_lt, o_icmp_ge, o_icmp_gt, o_icmp_le, o_nonnull, o_lsw2, o_iret, o_zret, o_vret, o_cV0, o_cV1, o_cV2, o_cV3, o_cV4, o_cV5, o_cV6, o_cS1, o_cS2, o_cS3, o_cS4, lg, lset, inB, pushv, c1, okr, at_, List.replicate, true_and, and_true, true_or, or_true, eq_self, forall_const, not_true_eq_false, not_false_eq_true, forall_eq, false_implies, true_implies,  List.length_nil, List.length_cons, Nat.zero_le, Nat.reduceAdd, Nat.reduceLeDiff, gcSub g (show g < 101 by omega) c (show c < 101 by omega) h2, gcAdd g (show g < 101 by omega) c (show c < 101 by omega) (show 1 ≤ g by omega), sh57k]
          simp (disch := omega) only [n1, nLe, n2, ndiv2]
          refine ⟨fun q9 => absurd q9 (by omega), fun _ => ⟨nI_ne0 (by omega) (by omega), ?_⟩⟩
          refine r_isAsGood (d := d + 14) hV (by omega) hj (by omega) (by omega) hRt hBt hCt (fun hg τ2 f2 hR2 => ?_) (fun hg τ2 f2 hR2 => ?_)
          · simp only [ia1, ia2, ia3, ia4, inn, inm, i10, i01, i0n, i1n, i0m, i1m, o_push, o_iload, o_aload, o_istore, o_iinc, o_iadd, o_isub, o_imul, o_iand, o_ior, o_ixor, o_ishl, o_ishr, o_iushr, o_idiv, o_irem, o_ineg, o_dup, o_dup2, o_pop, o_if_eq, o_if_ne, o_if_lt, o_if_ge, o_if_gt, o_if_le, o_icmp_eq, o_icmp_ne, o_icmp_lt, o_icmp_ge, o_icmp_gt, o_icmp_le, o_nonnull, o_lsw2, o_iret, o_zret, o_vret, o_cV0, o_cV1, o_cV2, o_cV3, o_cV4, o_cV5, o_cV6, o_cS1, o_cS2, o_cS3, o_cS4, lg, lset, inB, pushv, c1, okr, at_, List.replicate, true_and, and_true, true_or, or_true, eq_self, forall_const, not_true_eq_false, not_false_eq_true, forall_eq, false_implies, true_implies,  List.length_nil, List.length_cons, Nat.zero_le, Nat.reduceAdd, Nat.reduceLeDiff]
            exact ih ((g + c - 1) / 2) c τ2 _ (by omega) (by omega) (by omega) hg h5 (fun a q1 q2 => by rw [f2 a q1 (by omega)]; exact hfr a q1 q2) hR2 (hBt.fr (f2 64 (by omega) (by omega))) (hCt.fr (f2 65 (by omega) (by omega)))
          · simp only [ia1, ia2, ia3, ia4, inn, inm, i10, i01, i0n, i1n, i0m, i1m, o_push, o_iload, o_aload, o_istore, o_iinc, o_iadd, o_isub, o_imul, o_iand, o_ior, o_ixor, o_ishl, o_ishr, o_iushr, o_idiv, o_irem, o_ineg, o_dup, o_dup2, o_pop, o_if_eq, o_if_ne, o_if_lt, o_if_ge, o_if_gt, o_if_le, o_icmp_eq, o_icmp_ne, o_icmp_lt, o_icmp_ge, o_icmp_gt, o_icmp_le, o_nonnull, o_lsw2, o_iret, o_zret, o_vret, o_cV0, o_cV1, o_cV2, o_cV3, o_cV4, o_cV5, o_cV6, o_cS1, o_cS2, o_cS3, o_cS4, lg, lset, inB, pushv, c1, okr, at_, List.replicate, true_and, and_true, true_or, or_true, eq_self, forall_const, not_true_eq_false, not_false_eq_true, forall_eq, false_implies, true_implies,  List.length_nil, List.length_cons, Nat.zero_le, Nat.reduceAdd, Nat.reduceLeDiff]
            have := ih g ((g + c - 1) / 2 + 1) τ2 (some (.int (nI ((g + c - 1) / 2)))) (by omega) (by omega) h3 h4 (fun x hx => ?_) (fun a q1 q2 => by rw [f2 a q1 (by omega)]; exact hfr a q1 q2) hR2 (hBt.fr (f2 64 (by omega) (by omega))) (hCt.fr (f2 65 (by omega) (by omega)))
            · rw [gcOne _ (by omega)] at this
              exact this
            · by_cases hm2 : m' < 2
              · have e1 := best_mono hV hm2 (show j' < 7 by omega) (x := x) (y := (g + c - 1) / 2) (by omega) (by omega)
                have e2 := best_mono hV hm2 (show j' < 7 by omega) (x := (g + c - 1) / 2) (y := g) (by omega) (by omega)
                omega
              · exact absurd (best_2 hV (by omega) (by omega) j' _) hg
    · rw [opSlack, if_neg (fun z => z q), if_pos q2] at h
      simp only [ia1, ia2, ia3, ia4, inn, inm, i10, i01, i0n, i1n, i0m, i1m, o_push, o_iload, o_aload, o_istore, o_iinc, o_iadd, o_isub, o_imul, o_iand, o_ior, o_ixor, o_ishl, o_ishr, o_iushr, o_idiv, o_irem, o_ineg, o_dup, o_dup2, o_pop, o_if_eq, o_if_ne, o_if_lt, o_if_ge, o_if_gt, o_if_le, o_icmp_eq, o_icmp_ne, o_icmp_lt, o_icmp_ge, o_icmp_gt, o_icmp_le, o_nonnull, o_lsw2, o_iret, o_zret, o_vret, o_cV0, o_cV1, o_cV2, o_cV3, o_cV4, o_cV5, o_cV6, o_cS1, o_cS2, o_cS3, o_cS4, lg, lset, inB, pushv, c1, okr, at_, List.replicate, true_and, and_true, true_or, or_true, eq_self, forall_const, not_true_eq_false, not_false_eq_true, forall_eq, false_implies, true_implies,  List.length_nil, List.length_cons, Nat.zero_le, Nat.reduceAdd, Nat.reduceLeDiff]
      exact h σ (fun _ _ => rfl) hI
  · rw [opSlack, if_pos q] at h
    simp only [ia1, ia2, ia3, ia4, inn, inm, i10, i01, i0n, i1n, i0m, i1m, o_push, o_iload, o_aload, o_istore, o_iinc, o_iadd, o_isub, o_imul, o_iand, o_ior, o_ixor, o_ishl, o_ishr, o_iushr, o_idiv, o_irem, o_ineg, o_dup, o_dup2, o_pop, o_if_eq, o_if_ne, o_if_lt, o_if_ge, o_if_gt, o_if_le, o_icmp_eq, o_icmp_ne, o_icmp_lt, o_icmp_ge, o_icmp_gt, o_icmp_le, o_nonnull, o_lsw2, o_iret, o_zret, o_vret, o_cV0, o_cV1, o_cV2, o_cV3, o_cV4, o_cV5, o_cV6, o_cS1, o_cS2, o_cS3, o_cS4, lg, lset, inB, pushv, c1, okr, at_, List.replicate, true_and, and_true, true_or, or_true, eq_self, forall_const, not_true_eq_false, not_false_eq_true, forall_eq, false_implies, true_implies,  List.length_nil, List.length_cons, Nat.zero_le, Nat.reduceAdd, Nat.reduceLeDiff]
    exact h σ (fun _ _ => rfl) hI
end SLACKM
