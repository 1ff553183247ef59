/-! the first plan; what is kept of it -/
def BOk (σ : Mem) (V : Nat → Nat) (m : Nat) : Prop := σ 51 m = 0 ∨ (σ 51 m = 1 ∧ σ 50 m = nI (best m V) ∧ PlAt σ (37 + 3 * m) V (planP m V).1 (planP m V).2)
theorem jn_le {m x y c : Nat} (h : x + y ≤ c) : jn m x y ≤ c := by
  unfold jn
  split
  · exact Nat.max_le.mpr ⟨by omega, by omega⟩
  · exact h
theorem tm_add {V B : Nat → Nat} {k S : Nat} (g : Nat) (hg : g = if k = 0 then 3 else famS V (B (k - 1))) : tmR V (upN B k S) (k + 1) = tmR V B k + tk V g (famS V S) := by
  unfold tmR
  rw [if_neg (by omega)]
  cases k with
  | zero => simp [enR, upN, hg]
  | succ k =>
    have e1 : enR V (upN B (k + 1) S) k = enR V B k := enR_congr k (fun j hj => by simp [upN]; omega)
    simp [enR, e1, upN, hg]
section FINDC
variable {G : Gp} {d : Nat} {Q : Option Value → Mem → Prop} {σ : Mem} {b m ag : Nat} {V B : Nat → Nat}
theorem sp_firstBatch {left g t sp le S0 : Nat} (hb : IsSh b) (hb0 : 0 < b) (hb1 : b + 5 < 52) (hV : VOk V) (hm : m < 4) (hl : left < 2 ^ V 9) (hg : g < 4) (ht : t + 47 * pc left ≤ 329) (hsp : sp ≤ 100000) (hle : le < 2147483648)
    (hS0 : pB m V left g t sp le S0) (h1 : 1 ≤ S0) (hmin : ∀ x, 1 ≤ x → x < S0 → ¬ pB m V left g t sp le x) (hs : ShAt σ b V) (hI : SInv σ b m V ag)
    (h : ∀ τ, (∀ a, a ≠ 55 → a ≠ 56 → τ a = σ a) → SInv τ b m V ag → Q (some (.int (nI S0))) τ) :
    E G MX2_firstBatch (d + 11) 0 [some (.ref 52), some (.int (nI left)), some (.int (nI g)), some (.int (nI t)), some (.int (nI sp)), some (.int (nI le)), none, none, none, none] [] σ Q := by
  have h7 := hV.2.2.2.2.1
  have hp7 := p7 h7
  have hl7 : left < 128 := by omega
  have hSl := sub_le hS0.2.1
  apply kX2_firstBatch_0
  simp only [ia1, ia2, ia3, ia4, inn, inm, i10, i01, i0n, i1n, i0m, i1m, o_push, o_iload, o_aload, o_istore, o_iinc, o_iadd, o_isub, o_imul, o_iand, o_ior, o_ixor, o_ishl, o_ishr, o_iushr, o_idiv, o_irem, o_ineg, o_dup, o_dup2, o_pop, o_if_eq, o_if_ne, o_if_lt, o_if_ge, o_if_gt, o_if_le, o_icmp_eq, o_icmp_ne, o_icmp_lt, o_icmp_ge, o_icmp_gt, o_icmp_le, o_nonnull, o_lsw2, o_iret, o_zret, o_vret, o_cV0, o_cV1, o_cV2, o_cV3, o_cV4, o_cV5, o_cV6, o_cS1, o_cS2, o_cS3, o_cS4, lg, lset, inB, pushv, c1, okr, at_, List.replicate, true_and, and_true, true_or, or_true, eq_self, forall_const, not_true_eq_false, not_false_eq_true, forall_eq, false_implies, true_implies,  List.length_nil, List.length_cons, Nat.zero_le, Nat.reduceAdd, Nat.reduceLeDiff, n1]
  suffices H : ∀ n s (τ : Mem) (x7 x8 x9 : Option Value), s + n = S0 → 1 ≤ s → (∀ a, a ≠ 55 → a ≠ 56 → τ a = σ a) → SInv τ b m V ag →
      E G MX2_firstBatch (d + 11) 3 [some (.ref 52), some (.int (nI left)), some (.int (nI g)), some (.int (nI t)), some (.int (nI sp)), some (.int (nI le)), some (.int (nI s)), x7, x8, x9] [] τ Q from
    H (S0 - 1) 1 σ _ _ _ (by omega) (by omega) (fun _ _ _ => rfl) hI
  intro n
  induction n with
  | zero =>
    intro s τ x7 x8 x9 hs0 hs1 hfr hIt
    obtain rfl : s = S0 := by omega
    have hst : ShAt τ b V := hs.fr (fun a _ _ => hfr a (by omega) (by omega))
    obtain ⟨hJ0, hJ1, -, -, -, hJ53, -⟩ := id hIt
    have hfb := hJ53 s (by omega) (by omega)
    rw [fbw, if_pos hS0.1] at hfb
    have hsd : sd s left = 0 := (sd0 s (by omega) left hl7).mpr hS0.2.1
    have hf4 := famS_le hV s
    have hk := tk_le hV g (famS V s)
    have hp := pc_sd left hl7 s (by omega) hS0.1.1 hS0.2.1
    apply kX2_firstBatch_3
    simp (disch := omega) only [ia1, ia2, ia3, ia4, inn, inm, i10, i01, i0n, i1n, i0m, i1m, o_push, o_iload, o_aload, o_istore, o_iinc, o_iadd, o_isub, o_imul, o_iand, o_ior, o_ixor, o_ishl, o_ishr, o_iushr, o_idiv, o_irem, o_ineg, o_dup, o_dup2, o_pop, o_if_eq, o_if_ne, o_if_lt, o_if_ge, o_if_gt, o_if_le, o_icmp_eq, o_icmp_ne, o_icmp_lt, o_icmp_ge, o_icmp_gt, o_icmp_le, o_nonnull, o_lsw2, o_iret, o_zret, o_vret, o_cV0, o_cV1, o_cV2, o_cV3, o_cV4, o_cV5, o_cV6, o_cS1, o_cS2, o_cS3, o_cS4, lg, lset, inB, pushv, c1, okr, at_, List.replicate, true_and, and_true, true_or, or_true, eq_self, forall_const, not_true_eq_false, not_false_eq_true, forall_eq, false_implies, true_implies,  List.length_nil, List.length_cons, Nat.zero_le, Nat.reduceAdd, Nat.reduceLeDiff, nLt, gE2, ldI sh53, hfb, n1, sdN, hsd, n0, nEq, gEs hJ0, hb.k]
    refine ⟨fun q => absurd q (by omega), fun _ => ⟨fun q => absurd q (f_neg1 _ hf4), fun _ => sp_takes hb hV hst hg hf4 ?_⟩⟩
    simp (disch := omega) only [ia1, ia2, ia3, ia4, inn, inm, i10, i01, i0n, i1n, i0m, i1m, o_push, o_iload, o_aload, o_istore, o_iinc, o_iadd, o_isub, o_imul, o_iand, o_ior, o_ixor, o_ishl, o_ishr, o_iushr, o_idiv, o_irem, o_ineg, o_dup, o_dup2, o_pop, o_if_eq, o_if_ne, o_if_lt, o_if_ge, o_if_gt, o_if_le, o_icmp_eq, o_icmp_ne, o_icmp_lt, o_icmp_ge, o_icmp_gt, o_icmp_le, o_nonnull, o_lsw2, o_iret, o_zret, o_vret, o_cV0, o_cV1, o_cV2, o_cV3, o_cV4, o_cV5, o_cV6, o_cS1, o_cS2, o_cS3, o_cS4, lg, lset, inB, pushv, c1, okr, at_, List.replicate, true_and, and_true, true_or, or_true, eq_self, forall_const, not_true_eq_false, not_false_eq_true, forall_eq, false_implies, true_implies,  List.length_nil, List.length_cons, Nat.zero_le, Nat.reduceAdd, Nat.reduceLeDiff, nI_add, sh52k, gE1, hJ1]
    have hpb := part_le (m := m) hV (S := s) (t := t) (e := t + tk V g (famS V s)) (by omega)
    refine sp_part hb hb0 (by omega) hV hm (by omega) (by omega) (by omega) hst hJ0 hJ1 ?_
    simp only [ia1, ia2, ia3, ia4, inn, inm, i10, i01, i0n, i1n, i0m, i1m, o_push, o_iload, o_aload, o_istore, o_iinc, o_iadd, o_isub, o_imul, o_iand, o_ior, o_ixor, o_ishl, o_ishr, o_iushr, o_idiv, o_irem, o_ineg, o_dup, o_dup2, o_pop, o_if_eq, o_if_ne, o_if_lt, o_if_ge, o_if_gt, o_if_le, o_icmp_eq, o_icmp_ne, o_icmp_lt, o_icmp_ge, o_icmp_gt, o_icmp_le, o_nonnull, o_lsw2, o_iret, o_zret, o_vret, o_cV0, o_cV1, o_cV2, o_cV3, o_cV4, o_cV5, o_cV6, o_cS1, o_cS2, o_cS3, o_cS4, lg, lset, inB, pushv, c1, okr, at_, List.replicate, true_and, and_true, true_or, or_true, eq_self, forall_const, not_true_eq_false, not_false_eq_true, forall_eq, false_implies, true_implies,  List.length_nil, List.length_cons, Nat.zero_le, Nat.reduceAdd, Nat.reduceLeDiff]
    have hj1 : jn m sp (part m V s t (t + tk V g (famS V s))) ≤ 102800 := jn_le (by omega)
    refine sp_joined (by omega) (by omega) (by omega) ?_
    simp (disch := omega) only [ia1, ia2, ia3, ia4, inn, inm, i10, i01, i0n, i1n, i0m, i1m, o_push, o_iload, o_aload, o_istore, o_iinc, o_iadd, o_isub, o_imul, o_iand, o_ior, o_ixor, o_ishl, o_ishr, o_iushr, o_idiv, o_irem, o_ineg, o_dup, o_dup2, o_pop, o_if_eq, o_if_ne, o_if_lt, o_if_ge, o_if_gt, o_if_le, o_icmp_eq, o_icmp_ne, o_icmp_lt, o_icmp_ge, o_icmp_gt, o_icmp_le, o_nonnull, o_lsw2, o_iret, o_zret, o_vret, o_cV0, o_cV1, o_cV2, o_cV3, o_cV4, o_cV5, o_cV6, o_cS1, o_cS2, o_cS3, o_cS4, lg, lset, inB, pushv, c1, okr, at_, List.replicate, true_and, and_true, true_or, or_true, eq_self, forall_const, not_true_eq_false, not_false_eq_true, forall_eq, false_implies, true_implies,  List.length_nil, List.length_cons, Nat.zero_le, Nat.reduceAdd, Nat.reduceLeDiff, sh52k, gE1, hJ1, n1, sdN, n0]
    have hLb := LL_bd (m := m) hV 7 (sd left s) (famS V s) (t + tk V g (famS V s)) (sd_sub hl) (pc_7 _ (sd_lt hl7)) (by omega)
    refine sp_leastLeft (d := d) hb hb0 hb1 hV hm 7 (sd left s) (famS V s) (t + tk V g (famS V s)) 0 τ _ (pc_7 _ (sd_lt hl7)) (sd_sub hl) hf4 (by omega) (by have := pc_7 _ (sd_lt (c := s) hl7); omega) hst hIt (fun τ2 f2 hI2 => ?_)
    simp only [ia1, ia2, ia3, ia4, inn, inm, i10, i01, i0n, i1n, i0m, i1m, o_push, o_iload, o_aload, o_istore, o_iinc, o_iadd, o_isub, o_imul, o_iand, o_ior, o_ixor, o_ishl, o_ishr, o_iushr, o_idiv, o_irem, o_ineg, o_dup, o_dup2, o_pop, o_if_eq, o_if_ne, o_if_lt, o_if_ge, o_if_gt, o_if_le, o_icmp_eq, o_icmp_ne, o_icmp_lt, o_icmp_ge, o_icmp_gt, o_icmp_le, o_nonnull, o_lsw2, o_iret, o_zret, o_vret, o_cV0, o_cV1, o_cV2, o_cV3, o_cV4, o_cV5, o_cV6, o_cS1, o_cS2, o_cS3, o_cS4, lg, lset, inB, pushv, c1, okr, at_, List.replicate, true_and, and_true, true_or, or_true, eq_self, forall_const, not_true_eq_false, not_false_eq_true, forall_eq, false_implies, true_implies,  List.length_nil, List.length_cons, Nat.zero_le, Nat.reduceAdd, Nat.reduceLeDiff]
    refine sp_joined (by omega) (by omega) (by omega) ?_
    have hj2 : jn m (jn m sp (part m V s t (t + tk V g (famS V s)))) (LL m V (sd left s) (famS V s) (t + tk V g (famS V s))) ≤ 200000 := jn_le (by omega)
    simp (disch := omega) only [ia1, ia2, ia3, ia4, inn, inm, i10, i01, i0n, i1n, i0m, i1m, o_push, o_iload, o_aload, o_istore, o_iinc, o_iadd, o_isub, o_imul, o_iand, o_ior, o_ixor, o_ishl, o_ishr, o_iushr, o_idiv, o_irem, o_ineg, o_dup, o_dup2, o_pop, o_if_eq, o_if_ne, o_if_lt, o_if_ge, o_if_gt, o_if_le, o_icmp_eq, o_icmp_ne, o_icmp_lt, o_icmp_ge, o_icmp_gt, o_icmp_le, o_nonnull, o_lsw2, o_iret, o_zret, o_vret, o_cV0, o_cV1, o_cV2, o_cV3, o_cV4, o_cV5, o_cV6, o_cS1, o_cS2, o_cS3, o_cS4, lg, lset, inB, pushv, c1, okr, at_, List.replicate, true_and, and_true, true_or, or_true, eq_self, forall_const, not_true_eq_false, not_false_eq_true, forall_eq, false_implies, true_implies,  List.length_nil, List.length_cons, Nat.zero_le, Nat.reduceAdd, Nat.reduceLeDiff, nLt, n1, nI_add]
    exact ⟨fun q => absurd q (by have := hS0.2.2; omega), fun _ => h τ2 (fun a q1 q2 => by rw [f2 a q1 q2]; exact hfr a q1 q2) hI2⟩
  | succ n ih =>
    intro s τ x7 x8 x9 hs0 hs1 hfr hIt
    have hst : ShAt τ b V := hs.fr (fun a _ _ => hfr a (by omega) (by omega))
    obtain ⟨hJ0, hJ1, -, -, -, hJ53, -⟩ := id hIt
    have hno := hmin s hs1 (by omega)
    apply kX2_firstBatch_3
    simp (disch := omega) only [ia1, ia2, ia3, ia4, inn, inm, i10, i01, i0n, i1n, i0m, i1m, o_push, o_iload, o_aload, o_istore, o_iinc, o_iadd, o_isub, o_imul, o_iand, o_ior, o_ixor, o_ishl, o_ishr, o_iushr, o_idiv, o_irem, o_ineg, o_dup, o_dup2, o_pop, o_if_eq, o_if_ne, o_if_lt, o_if_ge, o_if_gt, o_if_le, o_icmp_eq, o_icmp_ne, o_icmp_lt, o_icmp_ge, o_icmp_gt, o_icmp_le, o_nonnull, o_lsw2, o_iret, o_zret, o_vret, o_cV0, o_cV1, o_cV2, o_cV3, o_cV4, o_cV5, o_cV6, o_cS1, o_cS2, o_cS3, o_cS4, lg, lset, inB, pushv, c1, okr, at_, List.replicate, true_and, and_true, true_or, or_true, eq_self, forall_const, not_true_eq_false, not_false_eq_true, forall_eq, false_implies, true_implies,  List.length_nil, List.length_cons, Nat.zero_le, Nat.reduceAdd, Nat.reduceLeDiff, nLt, gE2, ldI sh53, n1, sdN, n0, gEs hJ0, hb.k, nI_add]
    have hsl := sd_lt (l := s) (c := left) (by omega)
    simp (disch := omega) only [nEq]
    refine ⟨fun q => absurd q (by omega), fun _ => ⟨fun _ => ih (s + 1) τ _ _ _ (by omega) (by omega) hfr hIt, fun q => ?_⟩⟩
    have hsub := (sd0 s (by omega) left hl7).mp q
    have hfb := hJ53 s (by omega) (by omega)
    rw [hfb]
    simp only [fbw_neg hV]
    refine ⟨fun _ => ih (s + 1) τ _ _ _ (by omega) (by omega) hfr hIt, fun q3 => ?_⟩
    have hok : okB V s := Classical.not_not.mp q3
    rw [fbw, if_pos hok]
    have hf4 := famS_le hV s
    have hk := tk_le hV g (famS V s)
    have hp := pc_sd left hl7 s (by omega) hok.1 hsub
    refine sp_takes hb hV hst hg hf4 ?_
    simp (disch := omega) only [ia1, ia2, ia3, ia4, inn, inm, i10, i01, i0n, i1n, i0m, i1m, o_push, o_iload, o_aload, o_istore, o_iinc, o_iadd, o_isub, o_imul, o_iand, o_ior, o_ixor, o_ishl, o_ishr, o_iushr, o_idiv, o_irem, o_ineg, o_dup, o_dup2, o_pop, o_if_eq, o_if_ne, o_if_lt, o_if_ge, o_if_gt, o_if_le, o_icmp_eq, o_icmp_ne, o_icmp_lt, o_icmp_ge, o_icmp_gt, o_icmp_le, o_nonnull, o_lsw2, o_iret, o_zret, o_vret, o_cV0, o_cV1, o_cV2, o_cV3, o_cV4, o_cV5, o_cV6, o_cS1, o_cS2, o_cS3, o_cS4, lg, lset, inB, pushv, c1, okr, at_, List.replicate, true_and, and_true, true_or, or_true, eq_self, forall_const, not_true_eq_false, not_false_eq_true, forall_eq, false_implies, true_implies,  List.length_nil, List.length_cons, Nat.zero_le, Nat.reduceAdd, Nat.reduceLeDiff, nI_add, sh52k, gE1, hJ1]
    have hpb := part_le (m := m) hV (S := s) (t := t) (e := t + tk V g (famS V s)) (by omega)
    refine sp_part hb hb0 (by omega) hV hm (by omega) (by omega) (by omega) hst hJ0 hJ1 ?_
    simp only [ia1, ia2, ia3, ia4, inn, inm, i10, i01, i0n, i1n, i0m, i1m, o_push, o_iload, o_aload, o_istore, o_iinc, o_iadd, o_isub, o_imul, o_iand, o_ior, o_ixor, o_ishl, o_ishr, o_iushr, o_idiv, o_irem, o_ineg, o_dup, o_dup2, o_pop, o_if_eq, o_if_ne, o_if_lt, o_if_ge, o_if_gt, o_if_le, o_icmp_eq, o_icmp_ne, o_icmp_lt, o_icmp_ge, o_icmp_gt, o_icmp_le, o_nonnull, o_lsw2, o_iret, o_zret, o_vret, o_cV0, o_cV1, o_cV2, o_cV3, o_cV4, o_cV5, o_cV6, o_cS1, o_cS2, o_cS3, o_cS4, lg, lset, inB, pushv, c1, okr, at_, List.replicate, true_and, and_true, true_or, or_true, eq_self, forall_const, not_true_eq_false, not_false_eq_true, forall_eq, false_implies, true_implies,  List.length_nil, List.length_cons, Nat.zero_le, Nat.reduceAdd, Nat.reduceLeDiff]
    have hj1 : jn m sp (part m V s t (t + tk V g (famS V s))) ≤ 102800 := jn_le (by omega)
    refine sp_joined (by omega) (by omega) (by omega) ?_
    simp (disch := omega) only [ia1, ia2, ia3, ia4, inn, inm, i10, i01, i0n, i1n, i0m, i1m, o_push, o_iload, o_aload, o_istore, o_iinc, o_iadd, o_isub, o_imul, o_iand, o_ior, o_ixor, o_ishl, o_ishr, o_iushr, o_idiv, o_irem, o_ineg, o_dup, o_dup2, o_pop, o_if_eq, o_if_ne, o_if_lt, o_if_ge, o_if_gt, o_if_le, o_icmp_eq, o_icmp_ne, o_icmp_lt, o_icmp_ge, o_icmp_gt, o_icmp_le, o_nonnull, o_lsw2, o_iret, o_zret, o_vret, o_cV0, o_cV1, o_cV2, o_cV3, o_cV4, o_cV5, o_cV6, o_cS1, o_cS2, o_cS3, o_cS4, lg, lset, inB, pushv, c1, okr, at_, List.replicate, true_and, and_true, true_or, or_true, eq_self, forall_const, not_true_eq_false, not_false_eq_true, forall_eq, false_implies, true_implies,  List.length_nil, List.length_cons, Nat.zero_le, Nat.reduceAdd, Nat.reduceLeDiff, sh52k, gE1, hJ1, n1, sdN, n0]
    have hLb := LL_bd (m := m) hV 7 (sd left s) (famS V s) (t + tk V g (famS V s)) (sd_sub hl) (pc_7 _ (sd_lt hl7)) (by omega)
    refine sp_leastLeft (d := d) hb hb0 hb1 hV hm 7 (sd left s) (famS V s) (t + tk V g (famS V s)) 0 τ _ (pc_7 _ (sd_lt hl7)) (sd_sub hl) hf4 (by omega) (by have := pc_7 _ (sd_lt (c := s) hl7); omega) hst hIt (fun τ2 f2 hI2 => ?_)
    simp only [ia1, ia2, ia3, ia4, inn, inm, i10, i01, i0n, i1n, i0m, i1m, o_push, o_iload, o_aload, o_istore, o_iinc, o_iadd, o_isub, o_imul, o_iand, o_ior, o_ixor, o_ishl, o_ishr, o_iushr, o_idiv, o_irem, o_ineg, o_dup, o_dup2, o_pop, o_if_eq, o_if_ne, o_if_lt, o_if_ge, o_if_gt, o_if_le, o_icmp_eq, o_icmp_ne, o_icmp_lt, o_icmp_ge, o_icmp_gt, o_icmp_le, o_nonnull, o_lsw2, o_iret, o_zret, o_vret, o_cV0, o_cV1, o_cV2, o_cV3, o_cV4, o_cV5, o_cV6, o_cS1, o_cS2, o_cS3, o_cS4, lg, lset, inB, pushv, c1, okr, at_, List.replicate, true_and, and_true, true_or, or_true, eq_self, forall_const, not_true_eq_false, not_false_eq_true, forall_eq, false_implies, true_implies,  List.length_nil, List.length_cons, Nat.zero_le, Nat.reduceAdd, Nat.reduceLeDiff]
    refine sp_joined (by omega) (by omega) (by omega) ?_
    have hj2 : jn m (jn m sp (part m V s t (t + tk V g (famS V s)))) (LL m V (sd left s) (famS V s) (t + tk V g (famS V s))) ≤ 200000 := jn_le (by omega)
    simp (disch := omega) only [ia1, ia2, ia3, ia4, inn, inm, i10, i01, i0n, i1n, i0m, i1m, o_push, o_iload, o_aload, o_istore, o_iinc, o_iadd, o_isub, o_imul, o_iand, o_ior, o_ixor, o_ishl, o_ishr, o_iushr, o_idiv, o_irem, o_ineg, o_dup, o_dup2, o_pop, o_if_eq, o_if_ne, o_if_lt, o_if_ge, o_if_gt, o_if_le, o_icmp_eq, o_icmp_ne, o_icmp_lt, o_icmp_ge, o_icmp_gt, o_icmp_le, o_nonnull, o_lsw2, o_iret, o_zret, o_vret, o_cV0, o_cV1, o_cV2, o_cV3, o_cV4, o_cV5, o_cV6, o_cS1, o_cS2, o_cS3, o_cS4, lg, lset, inB, pushv, c1, okr, at_, List.replicate, true_and, and_true, true_or, or_true, eq_self, forall_const, not_true_eq_false, not_false_eq_true, forall_eq, false_implies, true_implies,  List.length_nil, List.length_cons, Nat.zero_le, Nat.reduceAdd, Nat.reduceLeDiff, nLt, n1, nI_add]
    refine ⟨fun _ => ih (s + 1) τ2 _ _ _ (by omega) (by omega) (fun a q1 q2 => by rw [f2 a q1 q2]; exact hfr a q1 q2) hI2, fun q => absurd ⟨hok, hsub, by omega⟩ hno⟩
theorem sp_layFirst {p le : Nat} {R : Nat × (Nat → Nat)} (hb : IsSh b) (hb0 : 0 < b) (hb1 : b + 5 < 28) (hp : IsPl p) (hp1 : 28 ≤ p) (hp2 : p + 2 < 52) (hV : VOk V) (hm : m < 4) (hle : le < 2147483648) (hbest : best m V ≤ le) (hR : R = lfR m V le 7 (fullS V) 3 0 0 (fun _ => 0))
    (hs : ShAt σ b V) (hI : SInv σ b m V ag) (h : ∀ τ, (∀ a, (a < p ∨ p + 2 < a) → a ≠ 55 → a ≠ 56 → τ a = σ a) → SInv τ b m V ag → PlAt τ p V R.1 R.2 → Q none τ) :
    E G MX2_layFirst (d + 12) 0 [some (.ref 52), some (.int (nI le)), some (.ref p), none, none, none, none, none, none] [] σ Q := by
  have h7 := hV.2.2.2.2.1
  have hp7 := p7 h7
  have hf := full_lt hV
  have hfp := pc_7 _ hf
  apply kX2_layFirst_0
  simp only [ia1, ia2, ia3, ia4, inn, inm, i10, i01, i0n, i1n, i0m, i1m, o_push, o_iload, o_aload, o_istore, o_iinc, o_iadd, o_isub, o_imul, o_iand, o_ior, o_ixor, o_ishl, o_ishr, o_iushr, o_idiv, o_irem, o_ineg, o_dup, o_dup2, o_pop, o_if_eq, o_if_ne, o_if_lt, o_if_ge, o_if_gt, o_if_le, o_icmp_eq, o_icmp_ne, o_icmp_lt, o_icmp_ge, o_icmp_gt, o_icmp_le, o_nonnull, o_lsw2, o_iret, o_zret, o_vret, o_cV0, o_cV1, o_cV2, o_cV3, o_cV4, o_cV5, o_cV6, o_cS1, o_cS2, o_cS3, o_cS4, lg, lset, inB, pushv, c1, okr, at_, List.replicate, true_and, and_true, true_or, or_true, eq_self, forall_const, not_true_eq_false, not_false_eq_true, forall_eq, false_implies, true_implies,  List.length_nil, List.length_cons, Nat.zero_le, Nat.reduceAdd, Nat.reduceLeDiff, hp.k]
  refine sp_clear hp ?_
  have f1 : ∀ a, a ≠ p → wr σ p 0 0 a = σ a := fun a q => wr_o q
  have hs1 : ShAt (wr σ p 0 0) b V := hs.fr (fun a _ _ => f1 a (by omega))
  have hI1 : SInv (wr σ p 0 0) b m V ag := by
    unfold SInv
    rw [f1 52 (by omega), f1 53 (by omega), f1 55 (by omega), f1 56 (by omega)]
    exact hI
  simp (disch := omega) only [ia1, ia2, ia3, ia4, inn, inm, i10, i01, i0n, i1n, i0m, i1m, o_push, o_iload, o_aload, o_istore, o_iinc, o_iadd, o_isub, o_imul, o_iand, o_ior, o_ixor, o_ishl, o_ishr, o_iushr, o_idiv, o_irem, o_ineg, o_dup, o_dup2, o_pop, o_if_eq, o_if_ne, o_if_lt, o_if_ge, o_if_gt, o_if_le, o_icmp_eq, o_icmp_ne, o_icmp_lt, o_icmp_ge, o_icmp_gt, o_icmp_le, o_nonnull, o_lsw2, o_iret, o_zret, o_vret, o_cV0, o_cV1, o_cV2, o_cV3, o_cV4, o_cV5, o_cV6, o_cS1, o_cS2, o_cS3, o_cS4, lg, lset, inB, pushv, c1, okr, at_, List.replicate, true_and, and_true, true_or, or_true, eq_self, forall_const, not_true_eq_false, not_false_eq_true, forall_eq, false_implies, true_implies,  List.length_nil, List.length_cons, Nat.zero_le, Nat.reduceAdd, Nat.reduceLeDiff, gEs hI1.1, hb.k]
  refine sp_everyJob hb hV hs1 ?_
  simp only [ia1, ia2, ia3, ia4, inn, inm, i10, i01, i0n, i1n, i0m, i1m, o_push, o_iload, o_aload, o_istore, o_iinc, o_iadd, o_isub, o_imul, o_iand, o_ior, o_ixor, o_ishl, o_ishr, o_iushr, o_idiv, o_irem, o_ineg, o_dup, o_dup2, o_pop, o_if_eq, o_if_ne, o_if_lt, o_if_ge, o_if_gt, o_if_le, o_icmp_eq, o_icmp_ne, o_icmp_lt, o_icmp_ge, o_icmp_gt, o_icmp_le, o_nonnull, o_lsw2, o_iret, o_zret, o_vret, o_cV0, o_cV1, o_cV2, o_cV3, o_cV4, o_cV5, o_cV6, o_cS1, o_cS2, o_cS3, o_cS4, lg, lset, inB, pushv, c1, okr, at_, List.replicate, true_and, and_true, true_or, or_true, eq_self, forall_const, not_true_eq_false, not_false_eq_true, forall_eq, false_implies, true_implies,  List.length_nil, List.length_cons, Nat.zero_le, Nat.reduceAdd, Nat.reduceLeDiff, n3, n0]
  suffices H : ∀ r left g sp k (B : Nat → Nat) (τ : Mem) (x7 x8 : Option Value), r + k = 7 → left < 2 ^ V 9 → (g = if k = 0 then 3 else famS V (B (k - 1))) → tmR V B k + 47 * pc left ≤ 329 → jn m sp (LL m V left g (tmR V B k)) ≤ le → sp ≤ 2800 * k →
      (∀ a, (a < p ∨ p + 2 < a) → a ≠ 55 → a ≠ 56 → τ a = σ a) → SInv τ b m V ag → PlAt τ p V k B → lfR m V le r left g sp k B = R →
      E G MX2_layFirst (d + 12) 29 [some (.ref 52), some (.int (nI le)), some (.ref p), some (.int (nI left)), some (.int (nI g)), some (.int (nI sp)), some (.int (nI k)), x7, x8] [] τ Q by
    refine H 7 (fullS V) 3 0 0 (fun _ => 0) _ _ _ (by omega) full_lt2 rfl (by simp [tmR]; omega) ?_ (by omega) (fun a q1 q2 q3 => f1 a (by omega)) hI1 clear_at hR.symm
    have : jn m 0 (LL m V (fullS V) 3 0) = best m V := by unfold jn best; split <;> simp
    rw [show tmR V (fun _ => 0) 0 = 0 from rfl, this]; exact hbest
  intro r
  induction r with
  | zero =>
    intro left g sp k B τ x7 x8 hrk hl hg ht hjn hsp hfr hIt hP hRR
    obtain rfl : k = 7 := by omega
    apply kX2_layFirst_29
    simp (disch := omega) only [ia1, ia2, ia3, ia4, inn, inm, i10, i01, i0n, i1n, i0m, i1m, o_push, o_iload, o_aload, o_istore, o_iinc, o_iadd, o_isub, o_imul, o_iand, o_ior, o_ixor, o_ishl, o_ishr, o_iushr, o_idiv, o_irem, o_ineg, o_dup, o_dup2, o_pop, o_if_eq, o_if_ne, o_if_lt, o_if_ge, o_if_gt, o_if_le, o_icmp_eq, o_icmp_ne, o_icmp_lt, o_icmp_ge, o_icmp_gt, o_icmp_le, o_nonnull, o_lsw2, o_iret, o_zret, o_vret, o_cV0, o_cV1, o_cV2, o_cV3, o_cV4, o_cV5, o_cV6, o_cS1, o_cS2, o_cS3, o_cS4, lg, lset, inB, pushv, c1, okr, at_, List.replicate, true_and, and_true, true_or, or_true, eq_self, forall_const, not_true_eq_false, not_false_eq_true, forall_eq, false_implies, true_implies,  List.length_nil, List.length_cons, Nat.zero_le, Nat.reduceAdd, Nat.reduceLeDiff, n7, nLe, Nat.le_refl]
    rw [← hRR] at h
    exact h τ hfr hIt hP
  | succ r ih =>
    intro left g sp k B τ x7 x8 hrk hl hg ht hjn hsp hfr hIt hP hRR
    have hl7 : left < 128 := by omega
    have hst : ShAt τ b V := hs.fr (fun a _ _ => hfr a (by omega) (by omega) (by omega))
    have hg4 : g < 4 := by
      rw [hg]; split
      · omega
      · exact famS_le hV _
    apply kX2_layFirst_29
    simp (disch := omega) only [ia1, ia2, ia3, ia4, inn, inm, i10, i01, i0n, i1n, i0m, i1m, o_push, o_iload, o_aload, o_istore, o_iinc, o_iadd, o_isub, o_imul, o_iand, o_ior, o_ixor, o_ishl, o_ishr, o_iushr, o_idiv, o_irem, o_ineg, o_dup, o_dup2, o_pop, o_if_eq, o_if_ne, o_if_lt, o_if_ge, o_if_gt, o_if_le, o_icmp_eq, o_icmp_ne, o_icmp_lt, o_icmp_ge, o_icmp_gt, o_icmp_le, o_nonnull, o_lsw2, o_iret, o_zret, o_vret, o_cV0, o_cV1, o_cV2, o_cV3, o_cV4, o_cV5, o_cV6, o_cS1, o_cS2, o_cS3, o_cS4, lg, lset, inB, pushv, c1, okr, at_, List.replicate, true_and, and_true, true_or, or_true, eq_self, forall_const, not_true_eq_false, not_false_eq_true, forall_eq, false_implies, true_implies,  List.length_nil, List.length_cons, Nat.zero_le, Nat.reduceAdd, Nat.reduceLeDiff, n7, nLe, n0, nEq, hp.k]
    refine ⟨fun q => absurd q (by omega), fun _ => ⟨fun q => ?_, fun q => sp_time hp hP ?_⟩⟩
    · rw [← hRR, lfR, if_pos q] at h
      exact h τ hfr hIt hP
    · simp only [ia1, ia2, ia3, ia4, inn, inm, i10, i01, i0n, i1n, i0m, i1m, o_push, o_iload, o_aload, o_istore, o_iinc, o_iadd, o_isub, o_imul, o_iand, o_ior, o_ixor, o_ishl, o_ishr, o_iushr, o_idiv, o_irem, o_ineg, o_dup, o_dup2, o_pop, o_if_eq, o_if_ne, o_if_lt, o_if_ge, o_if_gt, o_if_le, o_icmp_eq, o_icmp_ne, o_icmp_lt, o_icmp_ge, o_icmp_gt, o_icmp_le, o_nonnull, o_lsw2, o_iret, o_zret, o_vret, o_cV0, o_cV1, o_cV2, o_cV3, o_cV4, o_cV5, o_cV6, o_cS1, o_cS2, o_cS3, o_cS4, lg, lset, inB, pushv, c1, okr, at_, List.replicate, true_and, and_true, true_or, or_true, eq_self, forall_const, not_true_eq_false, not_false_eq_true, forall_eq, false_implies, true_implies,  List.length_nil, List.length_cons, Nat.zero_le, Nat.reduceAdd, Nat.reduceLeDiff, sh52k]
      obtain ⟨w1, w2, w3, w4⟩ := fbS_spec (m := m) hV hl q hjn
      rw [lfR, if_neg q] at hRR
      generalize hSe : fbS m V left g (tmR V B k) sp le = S at w1 w2 w3 w4 hRR
      refine sp_firstBatch hb hb0 (by omega) hV hm hl hg4 ht (by omega) hle w1 w2 w4 hst hIt (fun τ2 f2 hI2 => ?_)
      have hst2 : ShAt τ2 b V := hst.fr (fun a _ _ => f2 a (by omega) (by omega))
      have hP2 : PlAt τ2 p V k B := hP.fr (fun a _ _ => f2 a (by omega) (by omega))
      simp (disch := omega) only [ia1, ia2, ia3, ia4, inn, inm, i10, i01, i0n, i1n, i0m, i1m, o_push, o_iload, o_aload, o_istore, o_iinc, o_iadd, o_isub, o_imul, o_iand, o_ior, o_ixor, o_ishl, o_ishr, o_iushr, o_idiv, o_irem, o_ineg, o_dup, o_dup2, o_pop, o_if_eq, o_if_ne, o_if_lt, o_if_ge, o_if_gt, o_if_le, o_icmp_eq, o_icmp_ne, o_icmp_lt, o_icmp_ge, o_icmp_gt, o_icmp_le, o_nonnull, o_lsw2, o_iret, o_zret, o_vret, o_cV0, o_cV1, o_cV2, o_cV3, o_cV4, o_cV5, o_cV6, o_cS1, o_cS2, o_cS3, o_cS4, lg, lset, inB, pushv, c1, okr, at_, List.replicate, true_and, and_true, true_or, or_true, eq_self, forall_const, not_true_eq_false, not_false_eq_true, forall_eq, false_implies, true_implies,  List.length_nil, List.length_cons, Nat.zero_le, Nat.reduceAdd, Nat.reduceLeDiff, gEs hI2.1, hp.k]
      refine sp_add hb hp (by omega) hV hst2 hP2 (by omega) (by omega) w3 (fun τ3 f3 hP3 => ?_)
      have hst3 : ShAt τ3 b V := hst2.fr (fun a _ _ => f3 a (by omega) (by omega) (by omega))
      have hI3 : SInv τ3 b m V ag := by
        unfold SInv
        rw [f3 52 (by omega) (by omega) (by omega), f3 53 (by omega) (by omega) (by omega), f3 55 (by omega) (by omega) (by omega), f3 56 (by omega) (by omega) (by omega)]
        exact hI2
      have htm := tm_add (V := V) (B := B) (k := k) (S := S) g hg
      have hk := tk_le hV g (famS V S)
      have hf4 := famS_le hV S
      have hpd := pc_sd left hl7 S (by omega) w1.1.1 w1.2.1
      simp (disch := omega) only [ia1, ia2, ia3, ia4, inn, inm, i10, i01, i0n, i1n, i0m, i1m, o_push, o_iload, o_aload, o_istore, o_iinc, o_iadd, o_isub, o_imul, o_iand, o_ior, o_ixor, o_ishl, o_ishr, o_iushr, o_idiv, o_irem, o_ineg, o_dup, o_dup2, o_pop, o_if_eq, o_if_ne, o_if_lt, o_if_ge, o_if_gt, o_if_le, o_icmp_eq, o_icmp_ne, o_icmp_lt, o_icmp_ge, o_icmp_gt, o_icmp_le, o_nonnull, o_lsw2, o_iret, o_zret, o_vret, o_cV0, o_cV1, o_cV2, o_cV3, o_cV4, o_cV5, o_cV6, o_cS1, o_cS2, o_cS3, o_cS4, lg, lset, inB, pushv, c1, okr, at_, List.replicate, true_and, and_true, true_or, or_true, eq_self, forall_const, not_true_eq_false, not_false_eq_true, forall_eq, false_implies, true_implies,  List.length_nil, List.length_cons, Nat.zero_le, Nat.reduceAdd, Nat.reduceLeDiff, gE1, hI3.2.1, hp.k]
      refine sp_time hp hP3 ?_
      rw [htm]
      simp only [ia1, ia2, ia3, ia4, inn, inm, i10, i01, i0n, i1n, i0m, i1m, o_push, o_iload, o_aload, o_istore, o_iinc, o_iadd, o_isub, o_imul, o_iand, o_ior, o_ixor, o_ishl, o_ishr, o_iushr, o_idiv, o_irem, o_ineg, o_dup, o_dup2, o_pop, o_if_eq, o_if_ne, o_if_lt, o_if_ge, o_if_gt, o_if_le, o_icmp_eq, o_icmp_ne, o_icmp_lt, o_icmp_ge, o_icmp_gt, o_icmp_le, o_nonnull, o_lsw2, o_iret, o_zret, o_vret, o_cV0, o_cV1, o_cV2, o_cV3, o_cV4, o_cV5, o_cV6, o_cS1, o_cS2, o_cS3, o_cS4, lg, lset, inB, pushv, c1, okr, at_, List.replicate, true_and, and_true, true_or, or_true, eq_self, forall_const, not_true_eq_false, not_false_eq_true, forall_eq, false_implies, true_implies,  List.length_nil, List.length_cons, Nat.zero_le, Nat.reduceAdd, Nat.reduceLeDiff, sh52k]
      have hpb := part_le (m := m) hV (S := S) (t := tmR V B k) (e := tmR V B k + tk V g (famS V S)) (by omega)
      refine sp_part hb hb0 (by omega) hV hm (by omega) (by omega) (by omega) hst3 hI3.1 hI3.2.1 ?_
      simp only [ia1, ia2, ia3, ia4, inn, inm, i10, i01, i0n, i1n, i0m, i1m, o_push, o_iload, o_aload, o_istore, o_iinc, o_iadd, o_isub, o_imul, o_iand, o_ior, o_ixor, o_ishl, o_ishr, o_iushr, o_idiv, o_irem, o_ineg, o_dup, o_dup2, o_pop, o_if_eq, o_if_ne, o_if_lt, o_if_ge, o_if_gt, o_if_le, o_icmp_eq, o_icmp_ne, o_icmp_lt, o_icmp_ge, o_icmp_gt, o_icmp_le, o_nonnull, o_lsw2, o_iret, o_zret, o_vret, o_cV0, o_cV1, o_cV2, o_cV3, o_cV4, o_cV5, o_cV6, o_cS1, o_cS2, o_cS3, o_cS4, lg, lset, inB, pushv, c1, okr, at_, List.replicate, true_and, and_true, true_or, or_true, eq_self, forall_const, not_true_eq_false, not_false_eq_true, forall_eq, false_implies, true_implies,  List.length_nil, List.length_cons, Nat.zero_le, Nat.reduceAdd, Nat.reduceLeDiff]
      refine sp_joined (by omega) (by omega) (by omega) ?_
      have hfb := hI3.2.2.2.2.2.1 S (by have := sub_le w1.2.1; omega) (by omega)
      rw [fbw, if_pos w1.1] at hfb
      simp (disch := omega) only [ia1, ia2, ia3, ia4, inn, inm, i10, i01, i0n, i1n, i0m, i1m, o_push, o_iload, o_aload, o_istore, o_iinc, o_iadd, o_isub, o_imul, o_iand, o_ior, o_ixor, o_ishl, o_ishr, o_iushr, o_idiv, o_irem, o_ineg, o_dup, o_dup2, o_pop, o_if_eq, o_if_ne, o_if_lt, o_if_ge, o_if_gt, o_if_le, o_icmp_eq, o_icmp_ne, o_icmp_lt, o_icmp_ge, o_icmp_gt, o_icmp_le, o_nonnull, o_lsw2, o_iret, o_zret, o_vret, o_cV0, o_cV1, o_cV2, o_cV3, o_cV4, o_cV5, o_cV6, o_cS1, o_cS2, o_cS3, o_cS4, lg, lset, inB, pushv, c1, okr, at_, List.replicate, true_and, and_true, true_or, or_true, eq_self, forall_const, not_true_eq_false, not_false_eq_true, forall_eq, false_implies, true_implies,  List.length_nil, List.length_cons, Nat.zero_le, Nat.reduceAdd, Nat.reduceLeDiff, gE2, ldI sh53, hfb, n1, sdN, nI_add]
      refine ih (sd left S) (famS V S) _ (k + 1) (upN B k S) τ3 _ _ (by omega) (sd_sub hl) ?_ (by rw [htm]; omega) ?_ ?_ (fun a q1 q2 q3 => by rw [f3 a (by omega) (by omega) (by omega), f2 a q2 q3]; exact hfr a q1 q2 q3) hI3 hP3 hRR
      · rw [if_neg (by omega)]
        simp [upN]
      · rw [htm]; exact w1.2.2
      · have := jn_le (m := m) (x := sp) (y := part m V S (tmR V B k) (tmR V B k + tk V g (famS V S))) (c := 2800 * k + 2800) (by omega)
        omega
theorem best_le (hV : VOk V) : best m V ≤ 19600 := by
  have hf := full_lt hV
  have hfp := pc_7 _ hf
  have := LL_bd (m := m) hV 7 (fullS V) 3 0 full_lt2 hfp (by omega)
  unfold best; omega
theorem sp_findBest (hV : VOk V) (hm : m < 4) (hs : ShAt σ 1 V) (hK : KOld σ ag) (hB : BOk σ V m)
    (h : ∀ (τ : Mem) (ag' : Nat), (∀ a, a < 52 ∨ 56 < a → a ≠ 50 → a ≠ 51 → (a < 37 + 3 * m ∨ 39 + 3 * m < a) → τ a = σ a) → (∀ i, i ≠ m → τ 50 i = σ 50 i ∧ τ 51 i = σ 51 i) → KOld τ ag' → τ 51 m = 1 → τ 50 m = nI (best m V) → PlAt τ (37 + 3 * m) V (planP m V).1 (planP m V).2 → Q none τ) :
    E G MX4_findBest (d + 13) 0 [some (.ref 0), some (.int (nI m))] [] σ Q := by
  have hpl := isPl3 hm
  have hbl := best_le (m := m) hV
  have sh50 : sh 50 = shI 4 := rfl
  apply kX4_findBest_0
  simp (disch := omega) only [ia1, ia2, ia3, ia4, inn, inm, i10, i01, i0n, i1n, i0m, i1m, o_push, o_iload, o_aload, o_istore, o_iinc, o_iadd, o_isub, o_imul, o_iand, o_ior, o_ixor, o_ishl, o_ishr, o_iushr, o_idiv, o_irem, o_ineg, o_dup, o_dup2, o_pop, o_if_eq, o_if_ne, o_if_lt, o_if_ge, o_if_gt, o_if_le, o_icmp_eq, o_icmp_ne, o_icmp_lt, o_icmp_ge, o_icmp_gt, o_icmp_le, o_nonnull, o_lsw2, o_iret, o_zret, o_vret, o_cV0, o_cV1, o_cV2, o_cV3, o_cV4, o_cV5, o_cV6, o_cS1, o_cS2, o_cS3, o_cS4, lg, lset, inB, pushv, c1, okr, at_, List.replicate, true_and, and_true, true_or, or_true, eq_self, forall_const, not_true_eq_false, not_false_eq_true, forall_eq, false_implies, true_implies,  List.length_nil, List.length_cons, Nat.zero_le, Nat.reduceAdd, Nat.reduceLeDiff, gH10, gH9, gH11, gH0, ldZ sh51, sh52k]
  refine ⟨fun q => sp_leastOf isSh1 (by omega) (by omega) hV hm hs hK (fun σ1 ag1 f1 hI1 => ?_), fun q => ?_⟩
  · simp (disch := omega) only [ia1, ia2, ia3, ia4, inn, inm, i10, i01, i0n, i1n, i0m, i1m, o_push, o_iload, o_aload, o_istore, o_iinc, o_iadd, o_isub, o_imul, o_iand, o_ior, o_ixor, o_ishl, o_ishr, o_iushr, o_idiv, o_irem, o_ineg, o_dup, o_dup2, o_pop, o_if_eq, o_if_ne, o_if_lt, o_if_ge, o_if_gt, o_if_le, o_icmp_eq, o_icmp_ne, o_icmp_lt, o_icmp_ge, o_icmp_gt, o_icmp_le, o_nonnull, o_lsw2, o_iret, o_zret, o_vret, o_cV0, o_cV1, o_cV2, o_cV3, o_cV4, o_cV5, o_cV6, o_cS1, o_cS2, o_cS3, o_cS4, lg, lset, inB, pushv, c1, okr, at_, List.replicate, true_and, and_true, true_or, or_true, eq_self, forall_const, not_true_eq_false, not_false_eq_true, forall_eq, false_implies, true_implies,  List.length_nil, List.length_cons, Nat.zero_le, Nat.reduceAdd, Nat.reduceLeDiff, stI sh50, gH11, gH9, gH8, ldI sh50, wr_s]
    apply ld49 hm
    have hs2 : ShAt (wr σ1 50 m (nI (best m V))) 1 V := hs.fr (fun a _ _ => by rw [wr_o (by omega), f1 a (by omega)])
    have hI2 : SInv (wr σ1 50 m (nI (best m V))) 1 m V ag1 := by
      unfold SInv
      rw [wr_o (show (52 : Nat) ≠ 50 by omega), wr_o (show (53 : Nat) ≠ 50 by omega), wr_o (show (55 : Nat) ≠ 50 by omega), wr_o (show (56 : Nat) ≠ 50 by omega)]
      exact hI1
    simp only [ia1, ia2, ia3, ia4, inn, inm, i10, i01, i0n, i1n, i0m, i1m, o_push, o_iload, o_aload, o_istore, o_iinc, o_iadd, o_isub, o_imul, o_iand, o_ior, o_ixor, o_ishl, o_ishr, o_iushr, o_idiv, o_irem, o_ineg, o_dup, o_dup2, o_pop, o_if_eq, o_if_ne, o_if_lt, o_if_ge, o_if_gt, o_if_le, o_icmp_eq, o_icmp_ne, o_icmp_lt, o_icmp_ge, o_icmp_gt, o_icmp_le, o_nonnull, o_lsw2, o_iret, o_zret, o_vret, o_cV0, o_cV1, o_cV2, o_cV3, o_cV4, o_cV5, o_cV6, o_cS1, o_cS2, o_cS3, o_cS4, lg, lset, inB, pushv, c1, okr, at_, List.replicate, true_and, and_true, true_or, or_true, eq_self, forall_const, not_true_eq_false, not_false_eq_true, forall_eq, false_implies, true_implies,  List.length_nil, List.length_cons, Nat.zero_le, Nat.reduceAdd, Nat.reduceLeDiff, sh52k]
    refine sp_layFirst (R := planP m V) isSh1 (by omega) (by omega) hpl (by omega) (by omega) hV hm (by omega) (Nat.le_refl _) rfl hs2 hI2 (fun σ3 f3 hI3 hP3 => ?_)
    simp (disch := omega) only [ia1, ia2, ia3, ia4, inn, inm, i10, i01, i0n, i1n, i0m, i1m, o_push, o_iload, o_aload, o_istore, o_iinc, o_iadd, o_isub, o_imul, o_iand, o_ior, o_ixor, o_ishl, o_ishr, o_iushr, o_idiv, o_irem, o_ineg, o_dup, o_dup2, o_pop, o_if_eq, o_if_ne, o_if_lt, o_if_ge, o_if_gt, o_if_le, o_icmp_eq, o_icmp_ne, o_icmp_lt, o_icmp_ge, o_icmp_gt, o_icmp_le, o_nonnull, o_lsw2, o_iret, o_zret, o_vret, o_cV0, o_cV1, o_cV2, o_cV3, o_cV4, o_cV5, o_cV6, o_cS1, o_cS2, o_cS3, o_cS4, lg, lset, inB, pushv, c1, okr, at_, List.replicate, true_and, and_true, true_or, or_true, eq_self, forall_const, not_true_eq_false, not_false_eq_true, forall_eq, false_implies, true_implies,  List.length_nil, List.length_cons, Nat.zero_le, Nat.reduceAdd, Nat.reduceLeDiff, gH10, stZ sh51, nar1]
    refine h _ ag1 (fun a q1 q2 q3 q4 => ?_) (fun i hi => ⟨?_, ?_⟩) ?_ wr_s ?_ (hP3.fr (fun a _ _ => wr_o (by omega)))
    · rw [wr_o q3, f3 a (by omega) (by omega) (by omega), wr_o q2, f1 a q1]
    · rw [wr_o (by omega), f3 50 (by omega) (by omega) (by omega), wr_n (by omega), f1 50 (by omega)]
    · rw [wr_n (by omega), f3 51 (by omega) (by omega) (by omega), wr_o (by omega), f1 51 (by omega)]
    · obtain ⟨k1, k2, k3⟩ := hI3.old
      refine ⟨by rw [wr_o (by omega)]; exact k1, k2, fun i hi => ?_⟩
      rw [wr_o (show (55 : Nat) ≠ 51 by omega)]
      exact k3 i hi
    · rw [wr_o (by omega), f3 50 (by omega) (by omega) (by omega), wr_s]
  · rcases hB with q2 | ⟨q2, q3, q4⟩
    · exact absurd q2 q
    · exact h σ ag (fun _ _ _ _ _ => rfl) (fun _ _ => ⟨rfl, rfl⟩) hK q2 q3 q4
end FINDC
