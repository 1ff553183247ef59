section LEASTC
variable {G : Gp} {d : Nat} {b m ag : Nat} {V B : Nat → Nat}
theorem key_ag {ag left g t : Nat} (h2 : left < 128) (h3 : g < 4) (h4 : t < 512) : keyN ag left g t / 262144 = ag ∧ keyN ag left g t / 2048 % 128 = left ∧ keyN ag left g t / 512 % 4 = g ∧ keyN ag left g t % 512 = t := by
  unfold keyN
  omega
theorem key_lt {ag left g t : Nat} (h1 : ag ≤ 8191) (h2 : left < 128) (h3 : g < 4) (h4 : t < 512) : keyN ag left g t < 2147483648 := by
  unfold keyN
  omega
theorem jn_ge {m x y : Nat} : x ≤ jn m x y := by
  unfold jn
  split
  · exact Nat.le_max_left _ _
  · exact Nat.le_add_right _ _
theorem jn_0 {m x : Nat} : jn m x 0 = x := by
  unfold jn
  split
  · exact Nat.max_eq_left (Nat.zero_le _)
  · rfl
set_option maxHeartbeats 1000000 in
theorem sp_leastLeft (hb : IsSh b) (hb0 : 0 < b) (hb1 : b + 5 < 52) (hV : VOk V) (hm : m < 4) : ∀ (c left g t dep : Nat) (σ : Mem) (Q : Option Value → Mem → Prop), pc left ≤ c → left < 2 ^ V 9 → g < 4 → t + 47 * pc left ≤ 329 → dep + pc left ≤ 7 → ShAt σ b V → SInv σ b m V ag →
    (∀ τ, (∀ a, a ≠ 55 → a ≠ 56 → τ a = σ a) → SInv τ b m V ag → Q (some (.int (nI (LL m V left g t)))) τ) →
    E G MX2_leastLeft (d + c + 3) 0 [some (.ref 52), some (.int (nI left)), some (.int (nI g)), some (.int (nI t)), some (.int (nI dep)), none, none, none, none, none, none, none, none, none] [] σ Q := by
  have h7 := hV.2.2.2.2.1
  have hp7 := p7 h7
  intro c
  induction c with
  | zero =>
    intro left g t dep σ Q hc hl hg ht hdep hs hI h
    have h0 := pc_0 left (by omega) (by omega)
    subst h0
    have hq := h σ (fun _ _ _ => rfl) hI
    rw [LL_0] at hq
    apply kX2_leastLeft_0
    simp only [ia1, ia2, ia3, ia4, inn, inm, i10, i01, i0n, i1n, i0m, i1m, o_push, o_iload, o_aload, o_istore, o_iinc, o_iadd, o_isub, o_imul, o_iand, o_ior, o_ixor, o_ishl, o_ishr, o_iushr, o_idiv, o_irem, o_ineg, o_dup, o_dup2, o_pop, o_if_eq, o_if_ne, o_if_lt, o_if_ge, o_if_gt, o_if_le, o_icmp_eq, o_icmp_ne, o_icmp_lt, o_icmp_ge, o_icmp_gt, o_icmp_le, o_nonnull, o_lsw2, o_iret, o_zret, o_vret, o_cV0, o_cV1, o_cV2, o_cV3, o_cV4, o_cV5, o_cV6, o_cS1, o_cS2, o_cS3, o_cS4, lg, lset, inB, pushv, c1, okr, at_, List.replicate, true_and, and_true, true_or, or_true, eq_self, forall_const, not_true_eq_false, not_false_eq_true, forall_eq, false_implies, true_implies,  List.length_nil, List.length_cons, Nat.zero_le, Nat.reduceAdd, Nat.reduceLeDiff, n0]
    exact hq
  | succ c ih =>
    intro left g t dep σ Q hc hl hg ht hdep hs hI h
    have hl7 : left < 128 := by omega
    have hpl := pc_7 left hl7
    obtain ⟨hI0, hI1, hI4, ha1, ha2, hI53, hIk⟩ := id hI
    by_cases h0 : left = 0
    · subst h0
      have hq := h σ (fun _ _ _ => rfl) hI
      rw [LL_0] at hq
      apply kX2_leastLeft_0
      simp only [ia1, ia2, ia3, ia4, inn, inm, i10, i01, i0n, i1n, i0m, i1m, o_push, o_iload, o_aload, o_istore, o_iinc, o_iadd, o_isub, o_imul, o_iand, o_ior, o_ixor, o_ishl, o_ishr, o_iushr, o_idiv, o_irem, o_ineg, o_dup, o_dup2, o_pop, o_if_eq, o_if_ne, o_if_lt, o_if_ge, o_if_gt, o_if_le, o_icmp_eq, o_icmp_ne, o_icmp_lt, o_icmp_ge, o_icmp_gt, o_icmp_le, o_nonnull, o_lsw2, o_iret, o_zret, o_vret, o_cV0, o_cV1, o_cV2, o_cV3, o_cV4, o_cV5, o_cV6, o_cS1, o_cS2, o_cS3, o_cS4, lg, lset, inB, pushv, c1, okr, at_, List.replicate, true_and, and_true, true_or, or_true, eq_self, forall_const, not_true_eq_false, not_false_eq_true, forall_eq, false_implies, true_implies,  List.length_nil, List.length_cons, Nat.zero_le, Nat.reduceAdd, Nat.reduceLeDiff, n0]
      exact hq
    have hpc1 : 1 ≤ pc left := by
      rcases Nat.eq_zero_or_pos (pc left) with q | q
      · exact absurd (pc_0 left hl7 q) h0
      · exact q
    -- the time that is asked
    have mid : ∀ beg, beg + 47 * pc left ≤ 329 → LL m V left g beg = LL m V left g t → E G MX2_leastLeft (d + (c + 1) + 3) 28 [some (.ref 52), some (.int (nI left)), some (.int (nI g)), some (.int (nI t)), some (.int (nI dep)), none, none, none, none, none, none, none, none, none] [.int (nI beg)] σ Q := by
      intro beg hbeg hLL
      rw [← hLL] at h
      apply kX2_leastLeft_28
      simp only [ia1, ia2, ia3, ia4, inn, inm, i10, i01, i0n, i1n, i0m, i1m, o_push, o_iload, o_aload, o_istore, o_iinc, o_iadd, o_isub, o_imul, o_iand, o_ior, o_ixor, o_ishl, o_ishr, o_iushr, o_idiv, o_irem, o_ineg, o_dup, o_dup2, o_pop, o_if_eq, o_if_ne, o_if_lt, o_if_ge, o_if_gt, o_if_le, o_icmp_eq, o_icmp_ne, o_icmp_lt, o_icmp_ge, o_icmp_gt, o_icmp_le, o_nonnull, o_lsw2, o_iret, o_zret, o_vret, o_cV0, o_cV1, o_cV2, o_cV3, o_cV4, o_cV5, o_cV6, o_cS1, o_cS2, o_cS3, o_cS4, lg, lset, inB, pushv, c1, okr, at_, List.replicate, true_and, and_true, true_or, or_true, eq_self, forall_const, not_true_eq_false, not_false_eq_true, forall_eq, false_implies, true_implies,  List.length_nil, List.length_cons, Nat.zero_le, Nat.reduceAdd, Nat.reduceLeDiff]
      refine sp_bitCount hl7 ?_
      have htk : ∀ f, tk V g f ≤ 47 := fun f => tk_le hV g f
      simp (disch := omega) only [ia1, ia2, ia3, ia4, inn, inm, i10, i01, i0n, i1n, i0m, i1m, o_push, o_iload, o_aload, o_istore, o_iinc, o_iadd, o_isub, o_imul, o_iand, o_ior, o_ixor, o_ishl, o_ishr, o_iushr, o_idiv, o_irem, o_ineg, o_dup, o_dup2, o_pop, o_if_eq, o_if_ne, o_if_lt, o_if_ge, o_if_gt, o_if_le, o_icmp_eq, o_icmp_ne, o_icmp_lt, o_icmp_ge, o_icmp_gt, o_icmp_le, o_nonnull, o_lsw2, o_iret, o_zret, o_vret, o_cV0, o_cV1, o_cV2, o_cV3, o_cV4, o_cV5, o_cV6, o_cS1, o_cS2, o_cS3, o_cS4, lg, lset, inB, pushv, c1, okr, at_, List.replicate, true_and, and_true, true_or, or_true, eq_self, forall_const, not_true_eq_false, not_false_eq_true, forall_eq, false_implies, true_implies,  List.length_nil, List.length_cons, Nat.zero_le, Nat.reduceAdd, Nat.reduceLeDiff, n1, nEq]
      refine ⟨fun q1 => ?_, fun q1 => ?_⟩
      · -- the table
        simp only [ia1, ia2, ia3, ia4, inn, inm, i10, i01, i0n, i1n, i0m, i1m, o_push, o_iload, o_aload, o_istore, o_iinc, o_iadd, o_isub, o_imul, o_iand, o_ior, o_ixor, o_ishl, o_ishr, o_iushr, o_idiv, o_irem, o_ineg, o_dup, o_dup2, o_pop, o_if_eq, o_if_ne, o_if_lt, o_if_ge, o_if_gt, o_if_le, o_icmp_eq, o_icmp_ne, o_icmp_lt, o_icmp_ge, o_icmp_gt, o_icmp_le, o_nonnull, o_lsw2, o_iret, o_zret, o_vret, o_cV0, o_cV1, o_cV2, o_cV3, o_cV4, o_cV5, o_cV6, o_cS1, o_cS2, o_cS3, o_cS4, lg, lset, inB, pushv, c1, okr, at_, List.replicate, true_and, and_true, true_or, or_true, eq_self, forall_const, not_true_eq_false, not_false_eq_true, forall_eq, false_implies, true_implies,  List.length_nil, List.length_cons, Nat.zero_le, Nat.reduceAdd, Nat.reduceLeDiff, gE4, hI4]
        rw [key_eq ha2 hl7 hg (by omega)]
        obtain ⟨ka, kl, kg, kt⟩ := key_ag (ag := ag) hl7 hg (show beg < 512 by omega)
        have klt := key_lt ha2 hl7 hg (show beg < 512 by omega)
        generalize keyN ag left g beg = key at ka kl kg kt klt
        simp only [ia1, ia2, ia3, ia4, inn, inm, i10, i01, i0n, i1n, i0m, i1m, o_push, o_iload, o_aload, o_istore, o_iinc, o_iadd, o_isub, o_imul, o_iand, o_ior, o_ixor, o_ishl, o_ishr, o_iushr, o_idiv, o_irem, o_ineg, o_dup, o_dup2, o_pop, o_if_eq, o_if_ne, o_if_lt, o_if_ge, o_if_gt, o_if_le, o_icmp_eq, o_icmp_ne, o_icmp_lt, o_icmp_ge, o_icmp_gt, o_icmp_le, o_nonnull, o_lsw2, o_iret, o_zret, o_vret, o_cV0, o_cV1, o_cV2, o_cV3, o_cV4, o_cV5, o_cV6, o_cS1, o_cS2, o_cS3, o_cS4, lg, lset, inB, pushv, c1, okr, at_, List.replicate, true_and, and_true, true_or, or_true, eq_self, forall_const, not_true_eq_false, not_false_eq_true, forall_eq, false_implies, true_implies,  List.length_nil, List.length_cons, Nat.zero_le, Nat.reduceAdd, Nat.reduceLeDiff, sh52k]
        refine sp_slotOf (fun i hi => ?_)
        obtain ⟨x, e1, e2, e3, e4⟩ := hIk i hi
        simp (disch := omega) only [ia1, ia2, ia3, ia4, inn, inm, i10, i01, i0n, i1n, i0m, i1m, o_push, o_iload, o_aload, o_istore, o_iinc, o_iadd, o_isub, o_imul, o_iand, o_ior, o_ixor, o_ishl, o_ishr, o_iushr, o_idiv, o_irem, o_ineg, o_dup, o_dup2, o_pop, o_if_eq, o_if_ne, o_if_lt, o_if_ge, o_if_gt, o_if_le, o_icmp_eq, o_icmp_ne, o_icmp_lt, o_icmp_ge, o_icmp_gt, o_icmp_le, o_nonnull, o_lsw2, o_iret, o_zret, o_vret, o_cV0, o_cV1, o_cV2, o_cV3, o_cV4, o_cV5, o_cV6, o_cS1, o_cS2, o_cS3, o_cS4, lg, lset, inB, pushv, c1, okr, at_, List.replicate, true_and, and_true, true_or, or_true, eq_self, forall_const, not_true_eq_false, not_false_eq_true, forall_eq, false_implies, true_implies,  List.length_nil, List.length_cons, Nat.zero_le, Nat.reduceAdd, Nat.reduceLeDiff, gE5, gE6, ldI sh55, ldI sh56, e1, nEq, nmax]
        refine ⟨fun q2 => ?_, fun q2 => ?_⟩
        · -- all batches, from the greatest down
          suffices H : ∀ n bt least (τ : Mem) (x10 x11 x12 x13 : Option Value), bt ≤ n → bt &&& left = bt → (∀ a, a ≠ 55 → a ≠ 56 → τ a = σ a) → SInv τ b m V ag → least ≤ 1000000 →
              (∀ S, okB V S → S &&& left = S → bt < S → least ≤ cand m V (LL m V) left g beg S) → (least = 1000000 ∨ ∃ S, okB V S ∧ S &&& left = S ∧ least = cand m V (LL m V) left g beg S) →
              E G MX2_leastLeft (d + (c + 1) + 3) 119 [some (.ref 52), some (.int (nI left)), some (.int (nI g)), some (.int (nI t)), some (.int (nI dep)), some (.int (nI beg)), some (.int (nI key)), some (.int (nI i)), some (.int (nI least)), some (.int (nI bt)), x10, x11, x12, x13] [] τ Q from
            H left left _ σ _ _ _ _ (Nat.le_refl _) (Nat.and_self _) (fun _ _ _ => rfl) hI (Nat.le_refl _) (fun S hS hs' hlt => absurd (sub_le hs') (by omega)) (Or.inl rfl)
          intro n
          induction n with
          | zero =>
            intro bt least τ x10 x11 x12 x13 hbt hsub hfr hIt hle hmin hex
            obtain rfl : bt = 0 := by omega
            -- the end: keep it
            have hLLb := LL_bd (m := m) hV 7 left g beg hl hpl hbeg
            obtain ⟨S1, hS1, hs1, he1⟩ := LL_ex (m := m) hV (g := g) (t := beg) hl h0
            have hl1 := hmin S1 hS1 hs1 (Nat.pos_of_ne_zero hS1.1)
            have hleast : least = LL m V left g beg := by
              rcases hex with q | ⟨S, hS, hs', he⟩
              · omega
              · have := LL_le (m := m) (g := g) (t := beg) hl7 hS hs'
                omega
            apply kX2_leastLeft_119
            simp (disch := omega) only [ia1, ia2, ia3, ia4, inn, inm, i10, i01, i0n, i1n, i0m, i1m, o_push, o_iload, o_aload, o_istore, o_iinc, o_iadd, o_isub, o_imul, o_iand, o_ior, o_ixor, o_ishl, o_ishr, o_iushr, o_idiv, o_irem, o_ineg, o_dup, o_dup2, o_pop, o_if_eq, o_if_ne, o_if_lt, o_if_ge, o_if_gt, o_if_le, o_icmp_eq, o_icmp_ne, o_icmp_lt, o_icmp_ge, o_icmp_gt, o_icmp_le, o_nonnull, o_lsw2, o_iret, o_zret, o_vret, o_cV0, o_cV1, o_cV2, o_cV3, o_cV4, o_cV5, o_cV6, o_cS1, o_cS2, o_cS3, o_cS4, lg, lset, inB, pushv, c1, okr, at_, List.replicate, true_and, and_true, true_or, or_true, eq_self, forall_const, not_true_eq_false, not_false_eq_true, forall_eq, false_implies, true_implies,  List.length_nil, List.length_cons, Nat.zero_le, Nat.reduceAdd, Nat.reduceLeDiff, n0, nLe, Nat.le_refl, sh52k]
            refine sp_keep klt ka (by rw [kl, kg, kt]; exact hleast) hIt (fun τ2 f2 hI2 => ?_)
            simp only [ia1, ia2, ia3, ia4, inn, inm, i10, i01, i0n, i1n, i0m, i1m, o_push, o_iload, o_aload, o_istore, o_iinc, o_iadd, o_isub, o_imul, o_iand, o_ior, o_ixor, o_ishl, o_ishr, o_iushr, o_idiv, o_irem, o_ineg, o_dup, o_dup2, o_pop, o_if_eq, o_if_ne, o_if_lt, o_if_ge, o_if_gt, o_if_le, o_icmp_eq, o_icmp_ne, o_icmp_lt, o_icmp_ge, o_icmp_gt, o_icmp_le, o_nonnull, o_lsw2, o_iret, o_zret, o_vret, o_cV0, o_cV1, o_cV2, o_cV3, o_cV4, o_cV5, o_cV6, o_cS1, o_cS2, o_cS3, o_cS4, lg, lset, inB, pushv, c1, okr, at_, List.replicate, true_and, and_true, true_or, or_true, eq_self, forall_const, not_true_eq_false, not_false_eq_true, forall_eq, false_implies, true_implies,  List.length_nil, List.length_cons, Nat.zero_le, Nat.reduceAdd, Nat.reduceLeDiff]
            rw [hleast]
            exact h τ2 (fun a q1 q2 => by rw [f2 a q1 q2]; exact hfr a q1 q2) hI2
          | succ n ihn =>
            intro bt least τ x10 x11 x12 x13 hbt hsub hfr hIt hle hmin hex
            by_cases hb00 : bt = 0
            · subst hb00
              exact ihn 0 least τ x10 x11 x12 x13 (by omega) hsub hfr hIt hle hmin hex
            have hbtl := sub_le hsub
            have hst : ShAt τ b V := hs.fr (fun a _ _ => hfr a (by omega) (by omega))
            obtain ⟨hJ0, hJ1, hJ4, -, -, hJ53, -⟩ := id hIt
            have hfb := hJ53 bt (by omega) hb00
            -- on to the next batch
            have nxt : ∀ (least : Nat) (τ : Mem) (x10 x11 x12 x13 : Option Value), (∀ a, a ≠ 55 → a ≠ 56 → τ a = σ a) → SInv τ b m V ag → least ≤ 1000000 →
              (∀ S, okB V S → S &&& left = S → bt ≤ S → least ≤ cand m V (LL m V) left g beg S) → (least = 1000000 ∨ ∃ S, okB V S ∧ S &&& left = S ∧ least = cand m V (LL m V) left g beg S) →
              E G MX2_leastLeft (d + (c + 1) + 3) 119 [some (.ref 52), some (.int (nI left)), some (.int (nI g)), some (.int (nI t)), some (.int (nI dep)), some (.int (nI beg)), some (.int (nI key)), some (.int (nI i)), some (.int (nI least)), some (.int (nI ((bt - 1) &&& left))), x10, x11, x12, x13] [] τ Q := by
              intro least τ x10 x11 x12 x13 hfr hIt hle hmin hex
              have hle2 : (bt - 1) &&& left ≤ bt - 1 := Nat.and_le_left
              refine ihn _ least τ x10 x11 x12 x13 (by omega) (by rw [Nat.and_assoc, Nat.and_self]) hfr hIt hle (fun S hS hs' hlt => hmin S hS hs' ?_) hex
              rcases Nat.lt_or_ge S bt with q | q
              · have := nextS left hl7 bt (by omega) hsub S q hs'
                omega
              · exact q
            have hpos : ¬ nI bt ≤ 0 := nI_nle (by omega) (by omega)
            apply kX2_leastLeft_119
            simp (disch := omega) only [ia1, ia2, ia3, ia4, inn, inm, i10, i01, i0n, i1n, i0m, i1m, o_push, o_iload, o_aload, o_istore, o_iinc, o_iadd, o_isub, o_imul, o_iand, o_ior, o_ixor, o_ishl, o_ishr, o_iushr, o_idiv, o_irem, o_ineg, o_dup, o_dup2, o_pop, o_if_eq, o_if_ne, o_if_lt, o_if_ge, o_if_gt, o_if_le, o_icmp_eq, o_icmp_ne, o_icmp_lt, o_icmp_ge, o_icmp_gt, o_icmp_le, o_nonnull, o_lsw2, o_iret, o_zret, o_vret, o_cV0, o_cV1, o_cV2, o_cV3, o_cV4, o_cV5, o_cV6, o_cS1, o_cS2, o_cS3, o_cS4, lg, lset, inB, pushv, c1, okr, at_, List.replicate, true_and, and_true, true_or, or_true, eq_self, forall_const, not_true_eq_false, not_false_eq_true, forall_eq, false_implies, true_implies,  List.length_nil, List.length_cons, Nat.zero_le, Nat.reduceAdd, Nat.reduceLeDiff, hpos, gE2, ldI sh53, hfb, n1, nSub, fa_and, fbw_neg hV, gEs hJ0, hb.k]
            refine ⟨fun q3 => ?_, fun q3 => ?_⟩
            · refine nxt least τ _ _ _ _ hfr hIt hle (fun S hS hs' hge => ?_) hex
              rcases Nat.eq_or_lt_of_le hge with q | q
              · subst q; exact absurd hS q3
              · exact hmin S hS hs' q
            · have hok : okB V bt := Classical.not_not.mp q3
              have hf4 := famS_le hV bt
              rw [fbw, if_pos hok]
              have hp := pc_sd left hl7 bt (by omega) hb00 hsub
              have hk := htk (famS V bt)
              refine sp_takes hb hV hst hg hf4 ?_
              simp (disch := omega) only [ia1, ia2, ia3, ia4, inn, inm, i10, i01, i0n, i1n, i0m, i1m, o_push, o_iload, o_aload, o_istore, o_iinc, o_iadd, o_isub, o_imul, o_iand, o_ior, o_ixor, o_ishl, o_ishr, o_iushr, o_idiv, o_irem, o_ineg, o_dup, o_dup2, o_pop, o_if_eq, o_if_ne, o_if_lt, o_if_ge, o_if_gt, o_if_le, o_icmp_eq, o_icmp_ne, o_icmp_lt, o_icmp_ge, o_icmp_gt, o_icmp_le, o_nonnull, o_lsw2, o_iret, o_zret, o_vret, o_cV0, o_cV1, o_cV2, o_cV3, o_cV4, o_cV5, o_cV6, o_cS1, o_cS2, o_cS3, o_cS4, lg, lset, inB, pushv, c1, okr, at_, List.replicate, true_and, and_true, true_or, or_true, eq_self, forall_const, not_true_eq_false, not_false_eq_true, forall_eq, false_implies, true_implies,  List.length_nil, List.length_cons, Nat.zero_le, Nat.reduceAdd, Nat.reduceLeDiff, nI_add, sh52k]
              have hpb := part_le (m := m) hV (S := bt) (t := beg) (e := beg + tk V g (famS V bt)) (by omega)
              refine sp_part hb hb0 (by omega) hV hm (by omega) (by omega) (by omega) hst hJ0 hJ1 ?_
              simp (disch := omega) only [ia1, ia2, ia3, ia4, inn, inm, i10, i01, i0n, i1n, i0m, i1m, o_push, o_iload, o_aload, o_istore, o_iinc, o_iadd, o_isub, o_imul, o_iand, o_ior, o_ixor, o_ishl, o_ishr, o_iushr, o_idiv, o_irem, o_ineg, o_dup, o_dup2, o_pop, o_if_eq, o_if_ne, o_if_lt, o_if_ge, o_if_gt, o_if_le, o_icmp_eq, o_icmp_ne, o_icmp_lt, o_icmp_ge, o_icmp_gt, o_icmp_le, o_nonnull, o_lsw2, o_iret, o_zret, o_vret, o_cV0, o_cV1, o_cV2, o_cV3, o_cV4, o_cV5, o_cV6, o_cS1, o_cS2, o_cS3, o_cS4, lg, lset, inB, pushv, c1, okr, at_, List.replicate, true_and, and_true, true_or, or_true, eq_self, forall_const, not_true_eq_false, not_false_eq_true, forall_eq, false_implies, true_implies,  List.length_nil, List.length_cons, Nat.zero_le, Nat.reduceAdd, Nat.reduceLeDiff, nLe, nSub, n1, fa_and, sh52k, nI_add]
              refine ⟨fun q4 => ?_, fun q4 => ?_⟩
              · refine nxt least τ _ _ _ _ hfr hIt hle (fun S hS hs' hge => ?_) hex
                rcases Nat.eq_or_lt_of_le hge with q | q
                · subst q
                  exact Nat.le_trans q4 jn_ge
                · exact hmin S hS hs' q
              · rw [sdN _ hl7 _ (by omega)]
                have hLb := LL_bd (m := m) hV 7 (sd left bt) (famS V bt) (beg + tk V g (famS V bt)) (sd_sub hl) (pc_7 _ (sd_lt hl7)) (by omega)
                refine ih (sd left bt) (famS V bt) (beg + tk V g (famS V bt)) (dep + 1) τ _ (by omega) (sd_sub hl) hf4 (by omega) (by omega) hst hIt (fun τ2 f2 hI2 => ?_)
                simp only [ia1, ia2, ia3, ia4, inn, inm, i10, i01, i0n, i1n, i0m, i1m, o_push, o_iload, o_aload, o_istore, o_iinc, o_iadd, o_isub, o_imul, o_iand, o_ior, o_ixor, o_ishl, o_ishr, o_iushr, o_idiv, o_irem, o_ineg, o_dup, o_dup2, o_pop, o_if_eq, o_if_ne, o_if_lt, o_if_ge, o_if_gt, o_if_le, o_icmp_eq, o_icmp_ne, o_icmp_lt, o_icmp_ge, o_icmp_gt, o_icmp_le, o_nonnull, o_lsw2, o_iret, o_zret, o_vret, o_cV0, o_cV1, o_cV2, o_cV3, o_cV4, o_cV5, o_cV6, o_cS1, o_cS2, o_cS3, o_cS4, lg, lset, inB, pushv, c1, okr, at_, List.replicate, true_and, and_true, true_or, or_true, eq_self, forall_const, not_true_eq_false, not_false_eq_true, forall_eq, false_implies, true_implies,  List.length_nil, List.length_cons, Nat.zero_le, Nat.reduceAdd, Nat.reduceLeDiff, gE1, hI2.2.1]
                refine sp_joined (by omega) (by omega) (by omega) ?_
                have hcand : jn m (part m V bt beg (beg + tk V g (famS V bt))) (LL m V (sd left bt) (famS V bt) (beg + tk V g (famS V bt))) = cand m V (LL m V) left g beg bt := rfl
                have hcb : cand m V (LL m V) left g beg bt ≤ 30000 := by
                  rw [← hcand]
                  unfold jn
                  split
                  · exact Nat.max_le.mpr ⟨by omega, by omega⟩
                  · omega
                rw [hcand]
                simp only [ia1, ia2, ia3, ia4, inn, inm, i10, i01, i0n, i1n, i0m, i1m, o_push, o_iload, o_aload, o_istore, o_iinc, o_iadd, o_isub, o_imul, o_iand, o_ior, o_ixor, o_ishl, o_ishr, o_iushr, o_idiv, o_irem, o_ineg, o_dup, o_dup2, o_pop, o_if_eq, o_if_ne, o_if_lt, o_if_ge, o_if_gt, o_if_le, o_icmp_eq, o_icmp_ne, o_icmp_lt, o_icmp_ge, o_icmp_gt, o_icmp_le, o_nonnull, o_lsw2, o_iret, o_zret, o_vret, o_cV0, o_cV1, o_cV2, o_cV3, o_cV4, o_cV5, o_cV6, o_cS1, o_cS2, o_cS3, o_cS4, lg, lset, inB, pushv, c1, okr, at_, List.replicate, true_and, and_true, true_or, or_true, eq_self, forall_const, not_true_eq_false, not_false_eq_true, forall_eq, false_implies, true_implies,  List.length_nil, List.length_cons, Nat.zero_le, Nat.reduceAdd, Nat.reduceLeDiff]
                refine sp_min (by omega) (by omega) ?_
                simp (disch := omega) only [ia1, ia2, ia3, ia4, inn, inm, i10, i01, i0n, i1n, i0m, i1m, o_push, o_iload, o_aload, o_istore, o_iinc, o_iadd, o_isub, o_imul, o_iand, o_ior, o_ixor, o_ishl, o_ishr, o_iushr, o_idiv, o_irem, o_ineg, o_dup, o_dup2, o_pop, o_if_eq, o_if_ne, o_if_lt, o_if_ge, o_if_gt, o_if_le, o_icmp_eq, o_icmp_ne, o_icmp_lt, o_icmp_ge, o_icmp_gt, o_icmp_le, o_nonnull, o_lsw2, o_iret, o_zret, o_vret, o_cV0, o_cV1, o_cV2, o_cV3, o_cV4, o_cV5, o_cV6, o_cS1, o_cS2, o_cS3, o_cS4, lg, lset, inB, pushv, c1, okr, at_, List.replicate, true_and, and_true, true_or, or_true, eq_self, forall_const, not_true_eq_false, not_false_eq_true, forall_eq, false_implies, true_implies,  List.length_nil, List.length_cons, Nat.zero_le, Nat.reduceAdd, Nat.reduceLeDiff, n1, nSub, fa_and]
                refine nxt (min least (cand m V (LL m V) left g beg bt)) τ2 _ _ _ _ (fun a q1 q2 => by rw [f2 a q1 q2]; exact hfr a q1 q2) hI2 (by omega) (fun S hS hs' hge => ?_) ?_
                · rcases Nat.eq_or_lt_of_le hge with q | q
                  · subst q; exact Nat.min_le_right _ _
                  · exact Nat.le_trans (Nat.min_le_left _ _) (hmin S hS hs' q)
                · rcases Nat.le_total least (cand m V (LL m V) left g beg bt) with q | q
                  · rw [Nat.min_eq_left q]; exact hex
                  · rw [Nat.min_eq_right q]; exact Or.inr ⟨bt, hok, hsub, rfl⟩
        · subst q2
          have := h σ (fun _ _ _ => rfl) hI
          rw [e4 ka, kl, kg, kt]
          exact this
      · -- one job
        obtain ⟨S, hS, hs', he⟩ := LL_ex (m := m) hV (g := g) (t := beg) hl h0
        have hSl := sub_one left hl7 S (okB_lt hV hS) hS.1 hs' q1
        subst hSl
        have hf4 := famS_le hV S
        have hfb := hI53 S hl h0
        have hk := htk (famS V S)
        rw [fbw, if_pos hS] at hfb
        simp (disch := omega) only [ia1, ia2, ia3, ia4, inn, inm, i10, i01, i0n, i1n, i0m, i1m, o_push, o_iload, o_aload, o_istore, o_iinc, o_iadd, o_isub, o_imul, o_iand, o_ior, o_ixor, o_ishl, o_ishr, o_iushr, o_idiv, o_irem, o_ineg, o_dup, o_dup2, o_pop, o_if_eq, o_if_ne, o_if_lt, o_if_ge, o_if_gt, o_if_le, o_icmp_eq, o_icmp_ne, o_icmp_lt, o_icmp_ge, o_icmp_gt, o_icmp_le, o_nonnull, o_lsw2, o_iret, o_zret, o_vret, o_cV0, o_cV1, o_cV2, o_cV3, o_cV4, o_cV5, o_cV6, o_cS1, o_cS2, o_cS3, o_cS4, lg, lset, inB, pushv, c1, okr, at_, List.replicate, true_and, and_true, true_or, or_true, eq_self, forall_const, not_true_eq_false, not_false_eq_true, forall_eq, false_implies, true_implies,  List.length_nil, List.length_cons, Nat.zero_le, Nat.reduceAdd, Nat.reduceLeDiff, gEs hI0, gE2, ldI sh53, hfb, hb.k, sh52k]
        refine sp_takes hb hV hs hg hf4 ?_
        simp (disch := omega) only [ia1, ia2, ia3, ia4, inn, inm, i10, i01, i0n, i1n, i0m, i1m, o_push, o_iload, o_aload, o_istore, o_iinc, o_iadd, o_isub, o_imul, o_iand, o_ior, o_ixor, o_ishl, o_ishr, o_iushr, o_idiv, o_irem, o_ineg, o_dup, o_dup2, o_pop, o_if_eq, o_if_ne, o_if_lt, o_if_ge, o_if_gt, o_if_le, o_icmp_eq, o_icmp_ne, o_icmp_lt, o_icmp_ge, o_icmp_gt, o_icmp_le, o_nonnull, o_lsw2, o_iret, o_zret, o_vret, o_cV0, o_cV1, o_cV2, o_cV3, o_cV4, o_cV5, o_cV6, o_cS1, o_cS2, o_cS3, o_cS4, lg, lset, inB, pushv, c1, okr, at_, List.replicate, true_and, and_true, true_or, or_true, eq_self, forall_const, not_true_eq_false, not_false_eq_true, forall_eq, false_implies, true_implies,  List.length_nil, List.length_cons, Nat.zero_le, Nat.reduceAdd, Nat.reduceLeDiff, nI_add, sh52k]
        refine sp_part hb hb0 (by omega) hV hm (by omega) (by omega) (by omega) hs hI0 hI1 ?_
        simp only [ia1, ia2, ia3, ia4, inn, inm, i10, i01, i0n, i1n, i0m, i1m, o_push, o_iload, o_aload, o_istore, o_iinc, o_iadd, o_isub, o_imul, o_iand, o_ior, o_ixor, o_ishl, o_ishr, o_iushr, o_idiv, o_irem, o_ineg, o_dup, o_dup2, o_pop, o_if_eq, o_if_ne, o_if_lt, o_if_ge, o_if_gt, o_if_le, o_icmp_eq, o_icmp_ne, o_icmp_lt, o_icmp_ge, o_icmp_gt, o_icmp_le, o_nonnull, o_lsw2, o_iret, o_zret, o_vret, o_cV0, o_cV1, o_cV2, o_cV3, o_cV4, o_cV5, o_cV6, o_cS1, o_cS2, o_cS3, o_cS4, lg, lset, inB, pushv, c1, okr, at_, List.replicate, true_and, and_true, true_or, or_true, eq_self, forall_const, not_true_eq_false, not_false_eq_true, forall_eq, false_implies, true_implies,  List.length_nil, List.length_cons, Nat.zero_le, Nat.reduceAdd, Nat.reduceLeDiff]
        have := h σ (fun _ _ _ => rfl) hI
        rw [he] at this
        unfold cand at this
        rw [sub_self_sd S hl7, LL_0, jn_0] at this
        exact this
    apply kX2_leastLeft_0
    simp (disch := omega) only [ia1, ia2, ia3, ia4, inn, inm, i10, i01, i0n, i1n, i0m, i1m, o_push, o_iload, o_aload, o_istore, o_iinc, o_iadd, o_isub, o_imul, o_iand, o_ior, o_ixor, o_ishl, o_ishr, o_iushr, o_idiv, o_irem, o_ineg, o_dup, o_dup2, o_pop, o_if_eq, o_if_ne, o_if_lt, o_if_ge, o_if_gt, o_if_le, o_icmp_eq, o_icmp_ne, o_icmp_lt, o_icmp_ge, o_icmp_gt, o_icmp_le, o_nonnull, o_lsw2, o_iret, o_zret, o_vret, o_cV0, o_cV1, o_cV2, o_cV3, o_cV4, o_cV5, o_cV6, o_cS1, o_cS2, o_cS3, o_cS4, lg, lset, inB, pushv, c1, okr, at_, List.replicate, true_and, and_true, true_or, or_true, eq_self, forall_const, not_true_eq_false, not_false_eq_true, forall_eq, false_implies, true_implies,  List.length_nil, List.length_cons, Nat.zero_le, Nat.reduceAdd, Nat.reduceLeDiff, n0, n7, nEq, nLe, gE1, hI1]
    refine ⟨fun q => absurd q h0, fun _ => ⟨fun _ => sp_isOfDues hm ?_, fun q => absurd (by omega) q⟩⟩
    simp only [ia1, ia2, ia3, ia4, inn, inm, i10, i01, i0n, i1n, i0m, i1m, o_push, o_iload, o_aload, o_istore, o_iinc, o_iadd, o_isub, o_imul, o_iand, o_ior, o_ixor, o_ishl, o_ishr, o_iushr, o_idiv, o_irem, o_ineg, o_dup, o_dup2, o_pop, o_if_eq, o_if_ne, o_if_lt, o_if_ge, o_if_gt, o_if_le, o_icmp_eq, o_icmp_ne, o_icmp_lt, o_icmp_ge, o_icmp_gt, o_icmp_le, o_nonnull, o_lsw2, o_iret, o_zret, o_vret, o_cV0, o_cV1, o_cV2, o_cV3, o_cV4, o_cV5, o_cV6, o_cS1, o_cS2, o_cS3, o_cS4, lg, lset, inB, pushv, c1, okr, at_, List.replicate, true_and, and_true, true_or, or_true, eq_self, forall_const, not_true_eq_false, not_false_eq_true, forall_eq, false_implies, true_implies,  List.length_nil, List.length_cons, Nat.zero_le, Nat.reduceAdd, Nat.reduceLeDiff]
    by_cases hm2 : m < 2
    · rw [if_pos hm2]
      simp only [ia1, ia2, ia3, ia4, inn, inm, i10, i01, i0n, i1n, i0m, i1m, o_push, o_iload, o_aload, o_istore, o_iinc, o_iadd, o_isub, o_imul, o_iand, o_ior, o_ixor, o_ishl, o_ishr, o_iushr, o_idiv, o_irem, o_ineg, o_dup, o_dup2, o_pop, o_if_eq, o_if_ne, o_if_lt, o_if_ge, o_if_gt, o_if_le, o_icmp_eq, o_icmp_ne, o_icmp_lt, o_icmp_ge, o_icmp_gt, o_icmp_le, o_nonnull, o_lsw2, o_iret, o_zret, o_vret, o_cV0, o_cV1, o_cV2, o_cV3, o_cV4, o_cV5, o_cV6, o_cS1, o_cS2, o_cS3, o_cS4, lg, lset, inB, pushv, c1, okr, at_, List.replicate, true_and, and_true, true_or, or_true, eq_self, forall_const, not_true_eq_false, not_false_eq_true, forall_eq, false_implies, true_implies,  List.length_nil, List.length_cons, Nat.zero_le, Nat.reduceAdd, Nat.reduceLeDiff]
      exact mid t ht rfl
    · rw [if_neg hm2]
      simp only [ia1, ia2, ia3, ia4, inn, inm, i10, i01, i0n, i1n, i0m, i1m, o_push, o_iload, o_aload, o_istore, o_iinc, o_iadd, o_isub, o_imul, o_iand, o_ior, o_ixor, o_ishl, o_ishr, o_iushr, o_idiv, o_irem, o_ineg, o_dup, o_dup2, o_pop, o_if_eq, o_if_ne, o_if_lt, o_if_ge, o_if_gt, o_if_le, o_icmp_eq, o_icmp_ne, o_icmp_lt, o_icmp_ge, o_icmp_gt, o_icmp_le, o_nonnull, o_lsw2, o_iret, o_zret, o_vret, o_cV0, o_cV1, o_cV2, o_cV3, o_cV4, o_cV5, o_cV6, o_cS1, o_cS2, o_cS3, o_cS4, lg, lset, inB, pushv, c1, okr, at_, List.replicate, true_and, and_true, true_or, or_true, eq_self, forall_const, not_true_eq_false, not_false_eq_true, forall_eq, false_implies, true_implies,  List.length_nil, List.length_cons, Nat.zero_le, Nat.reduceAdd, Nat.reduceLeDiff, n0]
      exact mid 0 (by omega) (LL_t (by omega) hm)
end LEASTC
