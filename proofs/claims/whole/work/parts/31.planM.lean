/-! the reference's plan by a measure -/
def MPl (σ : Mem) (k : Nat) (B : Nat → Nat) : Prop := σ 57 6 = nI k ∧ k ≤ 14 ∧ ∀ i, i < k → σ 62 i = nI (B i) ∧ B i < 128
def bnd (m b sp : Nat) : Nat := if m = 1 ∨ m = 3 then b - sp else b
theorem pB_iff {m : Nat} {V : Nat → Nat} (hm : m < 4) {left g t sp le S : Nat} (hsp : sp ≤ le) (h2 : m = 2 → sp = t) : pB m V left g t sp le S ↔ okB V S ∧ S &&& left = S ∧ mcand m V left g t S ≤ bnd m le sp := by
  unfold pB
  refine and_congr_right (fun _ => and_congr_right (fun _ => ?_))
  unfold mcand bnd ML bth part jn
  obtain rfl | rfl | rfl | rfl : m = 0 ∨ m = 1 ∨ m = 2 ∨ m = 3 := by omega
  · simp only [if_true, if_false, Nat.max_le]
    simp
    omega
  · simp; omega
  · have := h2 rfl
    simp; omega
  · simp; omega
section PLANM
variable {G : Gp} {d : Nat} {Q : Option Value → Mem → Prop} {σ : Mem} {V : Nat → Nat} {m : Nat}
theorem bth_le (hV : VOk V) {S e : Nat} (he : e ≤ 400) : bth m V S e ≤ 4200 := by
  have q1 := lateR_le (m := 0) (V := V) (S := S) (e := e) (V 9)
  have q2 := lateR_le (m := 1) (V := V) (S := S) (e := e) (V 9)
  have q3 : V 9 * e ≤ 7 * 400 := Nat.mul_le_mul hV.2.2.2.2.1 he
  unfold bth
  split
  · omega
  · split
    · omega
    · split <;> omega
set_option maxRecDepth 2000 in
theorem r_isWithin {s l t b bd : Nat} (hV : VOk V) (hm : m < 4) (hR : RAt σ V) (hB : BFt σ V) (hs : s < 2 ^ V 9) (hl : l < 4) (ht : t ≤ 47 * pc s) (hb : b < 2 ^ V 9) (hbd : bd < 2 ^ 31)
    (hL : okB V b → b &&& s = 0 → σ 66 (plc (s ||| b) (famS V b) (t + tk V l (famS V b))) = nI (ML m V (sd (sd (fullS V) s) b) (famS V b) (t + tk V l (famS V b))))
    (h1 : okB V b → b &&& sd (fullS V) s = b → mcand m V (sd (fullS V) s) l t b ≤ bd → Q (some (.int 1)) σ) (h0 : ¬ (okB V b ∧ b &&& sd (fullS V) s = b ∧ mcand m V (sd (fullS V) s) l t b ≤ bd) → Q (some (.int 0)) σ) :
    E G MX5_isWithin (d + 3) 0 [some (.ref 57), some (.int (nI m)), some (.int (nI s)), some (.int (nI l)), some (.int (nI t)), some (.int (nI b)), some (.int (nI bd)), none] [] σ Q := by
  have hf := full_lt hV
  have hbdd := full_bd hV
  have h2 : fullS V + 1 = 2 ^ V 9 := by have : 1 ≤ 2 ^ V 9 := Nat.one_le_two_pow; unfold fullS; omega
  have hs7 : s < 128 := by omega
  have hb7 : b < 128 := by omega
  have hps := pc_7 s hs7
  have hlt := left_t hV hs ht
  have hleft : sd (fullS V) s < 2 ^ V 9 := sd_sub full_lt2
  have hleft7 : sd (fullS V) s < 128 := by omega
  have hand : b &&& s ≤ b := Nat.and_le_left
  have hBb := hB b hb
  have hsub := left_sub (V := V) hs7 hb hb7
  apply kX5_isWithin_0
  simp (disch := omega) only [ia1, ia2, ia3, ia4, inn, inm, i10, i01, i0n, i1n, i0m, i1m, o_push, o_iload, o_aload, o_istore, o_iinc, o_iadd, o_isub, o_imul, o_iand, o_ior, o_ixor, o_ishl, o_ishr, o_iushr, o_idiv, o_irem, o_ineg, o_dup, o_dup2, o_pop, o_if_eq, o_if_ne, o_if_lt, o_if_ge, o_if_gt, o_if_le, o_icmp_eq, o_icmp_ne, o_icmp_lt, o_icmp_ge, o_icmp_gt, o_icmp_le, o_nonnull, o_lsw2, o_iret, o_zret, o_vret, o_cV0, o_cV1, o_cV2, o_cV3, o_cV4, o_cV5, o_cV6, o_cS1, o_cS2, o_cS3, o_cS4, lg, lset, inB, pushv, c1, okr, at_, List.replicate, true_and, and_true, true_or, or_true, eq_self, forall_const, not_true_eq_false, not_false_eq_true, forall_eq, false_implies, true_implies,  List.length_nil, List.length_cons, Nat.zero_le, Nat.reduceAdd, Nat.reduceLeDiff, fa_and, n0, nEq, gM8, ldI sh64, hBb, sh57k]
  refine ⟨fun q => ?_, fun q => ?_⟩
  · rw [← n0]
    exact h0 (fun z => q (hsub.mpr z.2.1))
  · rw [← n0, rbw_nn hV]
    refine ⟨fun hok => ?_, fun hok => ?_⟩
    · have hf3 := famS_lt hV hok.1 hok.2.1
      have hk := tk_le hV l (famS V b)
      have hpo := pc_or s hs7 b hb7 hok.1 q
      have hsb : s ||| b < 2 ^ V 9 := Nat.or_lt_two_pow hs hok.2.1
      have hp7 := pc_7 (s ||| b) (by omega)
      have hLb := hL hok q
      have hsub2 := hsub.mp q
      have hpd := pc_sd (sd (fullS V) s) hleft7 b hb7 hok.1 hsub2
      rw [rbw, if_pos hok]
      refine r_endOf hl hf3 hV hR ?_
      simp only [ia1, ia2, ia3, ia4, inn, inm, i10, i01, i0n, i1n, i0m, i1m, o_push, o_iload, o_aload, o_istore, o_iinc, o_iadd, o_isub, o_imul, o_iand, o_ior, o_ixor, o_ishl, o_ishr, o_iushr, o_idiv, o_irem, o_ineg, o_dup, o_dup2, o_pop, o_if_eq, o_if_ne, o_if_lt, o_if_ge, o_if_gt, o_if_le, o_icmp_eq, o_icmp_ne, o_icmp_lt, o_icmp_ge, o_icmp_gt, o_icmp_le, o_nonnull, o_lsw2, o_iret, o_zret, o_vret, o_cV0, o_cV1, o_cV2, o_cV3, o_cV4, o_cV5, o_cV6, o_cS1, o_cS2, o_cS3, o_cS4, lg, lset, inB, pushv, c1, okr, at_, List.replicate, true_and, and_true, true_or, or_true, eq_self, forall_const, not_true_eq_false, not_false_eq_true, forall_eq, false_implies, true_implies,  List.length_nil, List.length_cons, Nat.zero_le, Nat.reduceAdd, Nat.reduceLeDiff, sh57k]
      refine r_both hm (by omega) (by omega) hV hR ?_
      simp (disch := omega) only [ia1, ia2, ia3, ia4, inn, inm, i10, i01, i0n, i1n, i0m, i1m, o_push, o_iload, o_aload, o_istore, o_iinc, o_iadd, o_isub, o_imul, o_iand, o_ior, o_ixor, o_ishl, o_ishr, o_iushr, o_idiv, o_irem, o_ineg, o_dup, o_dup2, o_pop, o_if_eq, o_if_ne, o_if_lt, o_if_ge, o_if_gt, o_if_le, o_icmp_eq, o_icmp_ne, o_icmp_lt, o_icmp_ge, o_icmp_gt, o_icmp_le, o_nonnull, o_lsw2, o_iret, o_zret, o_vret, o_cV0, o_cV1, o_cV2, o_cV3, o_cV4, o_cV5, o_cV6, o_cS1, o_cS2, o_cS3, o_cS4, lg, lset, inB, pushv, c1, okr, at_, List.replicate, true_and, and_true, true_or, or_true, eq_self, forall_const, not_true_eq_false, not_false_eq_true, forall_eq, false_implies, true_implies,  List.length_nil, List.length_cons, Nat.zero_le, Nat.reduceAdd, Nat.reduceLeDiff, gM10, fa_or, gM8, ldI sh64, hBb]
      rw [rbw, if_pos hok]
      refine r_place ?_
      have hplt := Nat.lt_of_lt_of_le (plc_lt (s := s ||| b) (l := famS V b) (t := t + tk V l (famS V b)) (by omega) (by omega)) (Nat.mul_le_mul_right 1320 (show (s ||| b) + 1 ≤ fullS V + 1 by omega))
      simp (disch := omega) only [ia1, ia2, ia3, ia4, inn, inm, i10, i01, i0n, i1n, i0m, i1m, o_push, o_iload, o_aload, o_istore, o_iinc, o_iadd, o_isub, o_imul, o_iand, o_ior, o_ixor, o_ishl, o_ishr, o_iushr, o_idiv, o_irem, o_ineg, o_dup, o_dup2, o_pop, o_if_eq, o_if_ne, o_if_lt, o_if_ge, o_if_gt, o_if_le, o_icmp_eq, o_icmp_ne, o_icmp_lt, o_icmp_ge, o_icmp_gt, o_icmp_le, o_nonnull, o_lsw2, o_iret, o_zret, o_vret, o_cV0, o_cV1, o_cV2, o_cV3, o_cV4, o_cV5, o_cV6, o_cS1, o_cS2, o_cS3, o_cS4, lg, lset, inB, pushv, c1, okr, at_, List.replicate, true_and, and_true, true_or, or_true, eq_self, forall_const, not_true_eq_false, not_false_eq_true, forall_eq, false_implies, true_implies,  List.length_nil, List.length_cons, Nat.zero_le, Nat.reduceAdd, Nat.reduceLeDiff, ldI sh66, hLb]
      have hMb := ML_bd (m := m) hV (left := sd (sd (fullS V) s) b) (g := famS V b) (t := t + tk V l (famS V b)) (sd_sub hleft) (by omega)
      have hbb := bth_le (m := m) hV (S := b) (e := t + tk V l (famS V b)) (by omega)
      refine r_together (by omega) (by omega) (by omega) ?_
      rw [show jn m (bth m V b (t + tk V l (famS V b))) (ML m V (sd (sd (fullS V) s) b) (famS V b) (t + tk V l (famS V b))) = mcand m V (sd (fullS V) s) l t b from rfl]
      have hmc : mcand m V (sd (fullS V) s) l t b ≤ 30000 := jn_le (by omega)
      simp (disch := omega) only [ia1, ia2, ia3, ia4, inn, inm, i10, i01, i0n, i1n, i0m, i1m, o_push, o_iload, o_aload, o_istore, o_iinc, o_iadd, o_isub, o_imul, o_iand, o_ior, o_ixor, o_ishl, o_ishr, o_iushr, o_idiv, o_irem, o_ineg, o_dup, o_dup2, o_pop, o_if_eq, o_if_ne, o_if_lt, o_if_ge, o_if_gt, o_if_le, o_icmp_eq, o_icmp_ne, o_icmp_lt, o_icmp_ge, o_icmp_gt, o_icmp_le, o_nonnull, o_lsw2, o_iret, o_zret, o_vret, o_cV0, o_cV1, o_cV2, o_cV3, o_cV4, o_cV5, o_cV6, o_cS1, o_cS2, o_cS3, o_cS4, lg, lset, inB, pushv, c1, okr, at_, List.replicate, true_and, and_true, true_or, or_true, eq_self, forall_const, not_true_eq_false, not_false_eq_true, forall_eq, false_implies, true_implies,  List.length_nil, List.length_cons, Nat.zero_le, Nat.reduceAdd, Nat.reduceLeDiff, nLt]
      exact ⟨fun y => h0 (fun z => by omega), fun y => h1 hok hsub2 (by omega)⟩
    · exact h0 (fun z => hok z.1)
theorem MTab.fr {τ : Mem} (h : MTab σ m V) (h4 : τ 64 = σ 64) (h5 : τ 65 = σ 65) (h6 : τ 66 = σ 66) : MTab τ m V := by
  refine ⟨h.1.fr h4, h.2.1.fr h5, ?_⟩
  unfold ADone
  rw [h5, h6]
  exact h.2.2
set_option maxRecDepth 2000 in
set_option maxHeartbeats 1000000 in
theorem r_layBest (hV : VOk V) (hm : m < 4) (hR : RAt σ V) (h : ∀ τ, (∀ a, (a < 57 ∨ a = 58 ∨ a = 59 ∨ a = 60 ∨ a = 61 ∨ a = 63) → τ a = σ a) → (∀ i, i ≠ 6 → τ 57 i = σ 57 i) → MPl τ (planP m V).1 (planP m V).2 → Q none τ) : E G MX5_layBest (d + 6) 0 [some (.ref 57), some (.int (nI m)), none, none, none, none, none, none] [] σ Q := by
  have hf := full_lt hV
  have hbdd := full_bd hV
  have h2 : fullS V + 1 = 2 ^ V 9 := by have : 1 ≤ 2 ^ V 9 := Nat.one_le_two_pow; unfold fullS; omega
  have hbl := best_le (m := m) hV
  have hfp := pc_7 _ hf
  apply kX5_layBest_0
  simp only [ia1, ia2, ia3, ia4, inn, inm, i10, i01, i0n, i1n, i0m, i1m, o_push, o_iload, o_aload, o_istore, o_iinc, o_iadd, o_isub, o_imul, o_iand, o_ior, o_ixor, o_ishl, o_ishr, o_iushr, o_idiv, o_irem, o_ineg, o_dup, o_dup2, o_pop, o_if_eq, o_if_ne, o_if_lt, o_if_ge, o_if_gt, o_if_le, o_icmp_eq, o_icmp_ne, o_icmp_lt, o_icmp_ge, o_icmp_gt, o_icmp_le, o_nonnull, o_lsw2, o_iret, o_zret, o_vret, o_cV0, o_cV1, o_cV2, o_cV3, o_cV4, o_cV5, o_cV6, o_cS1, o_cS2, o_cS3, o_cS4, lg, lset, inB, pushv, c1, okr, at_, List.replicate, true_and, and_true, true_or, or_true, eq_self, forall_const, not_true_eq_false, not_false_eq_true, forall_eq, false_implies, true_implies,  List.length_nil, List.length_cons, Nat.zero_le, Nat.reduceAdd, Nat.reduceLeDiff, sh57k]
  refine r_bestOf hV hm hR (fun σ1 f1 hT => ?_)
  simp only [ia1, ia2, ia3, ia4, inn, inm, i10, i01, i0n, i1n, i0m, i1m, o_push, o_iload, o_aload, o_istore, o_iinc, o_iadd, o_isub, o_imul, o_iand, o_ior, o_ixor, o_ishl, o_ishr, o_iushr, o_idiv, o_irem, o_ineg, o_dup, o_dup2, o_pop, o_if_eq, o_if_ne, o_if_lt, o_if_ge, o_if_gt, o_if_le, o_icmp_eq, o_icmp_ne, o_icmp_lt, o_icmp_ge, o_icmp_gt, o_icmp_le, o_nonnull, o_lsw2, o_iret, o_zret, o_vret, o_cV0, o_cV1, o_cV2, o_cV3, o_cV4, o_cV5, o_cV6, o_cS1, o_cS2, o_cS3, o_cS4, lg, lset, inB, pushv, c1, okr, at_, List.replicate, true_and, and_true, true_or, or_true, eq_self, forall_const, not_true_eq_false, not_false_eq_true, forall_eq, false_implies, true_implies,  List.length_nil, List.length_cons, Nat.zero_le, Nat.reduceAdd, Nat.reduceLeDiff, pM6, n0, n3]
  suffices H : ∀ r s g sp t k (B : Nat → Nat) (τ : Mem) (x6 x7 : Option Value), s < 2 ^ V 9 → pc (sd (fullS V) s) ≤ r → k + pc (sd (fullS V) s) ≤ 7 → t = tmR V B k → (g = if k = 0 then 3 else famS V (B (k - 1))) → jn m sp (LL m V (sd (fullS V) s) g t) ≤ best m V → (m = 2 → sp = t) → τ 65 (plc s g t) = 1 →
      (∀ a, (a < 57 ∨ a = 58 ∨ a = 59 ∨ a = 60 ∨ a = 61 ∨ a = 63) → τ a = σ a) → (∀ i, i ≠ 6 → τ 57 i = σ 57 i) → MTab τ m V → MPl τ k B → lfR m V (best m V) r (sd (fullS V) s) g sp k B = planP m V →
      E G MX5_layBest (d + 6) 19 [some (.ref 57), some (.int (nI m)), some (.int (nI (bnd m (best m V) sp))), some (.int (nI s)), some (.int (nI g)), some (.int (nI t)), x6, x7] [] τ Q by
    have hb0 : bnd m (best m V) 0 = best m V := by unfold bnd; split <;> omega
    have := H 7 0 3 0 0 0 (fun _ => 0) (wr σ1 57 6 (nI 0)) none none (Nat.two_pow_pos _) (by rw [sd_zero _ hf]; exact hfp) (by rw [sd_zero _ hf]; omega) rfl rfl (by rw [sd_zero _ hf]; have e : jn m 0 (LL m V (fullS V) 3 0) = best m V := (by unfold jn best; split <;> simp); rw [e]; exact Nat.le_refl _) (fun _ => rfl) (by rw [wr_o (by omega)]; exact hT.2.1.2.1) (fun a ha => by rw [wr_o (by omega), f1 a (by omega)]) (fun i hi => by rw [wr_n (by omega), f1 57 (by omega)]) (hT.fr (wr_o (by omega)) (wr_o (by omega)) (wr_o (by omega))) ⟨wr_s, by omega, fun i hi => by omega⟩ (by rw [sd_zero _ hf]; rfl)
    rw [hb0] at this
    exact this
  intro r
  induction r with
  | zero =>
    intro s g sp t k B τ x6 x7 hs hpc hk ht hg hjn hsp2 hcm hfr hfr6 hTt hP hR0
    have hRt : RAt τ V := hR.fr (hfr 58 (by omega))
    have hl0 := pc_0 (sd (fullS V) s) (sd_lt hf) (by omega)
    have hse := sd_eq0 (fullS V) hf s (by omega) (full_sub hs) hl0
    apply kX5_layBest_19
    simp only [ia1, ia2, ia3, ia4, inn, inm, i10, i01, i0n, i1n, i0m, i1m, o_push, o_iload, o_aload, o_istore, o_iinc, o_iadd, o_isub, o_imul, o_iand, o_ior, o_ixor, o_ishl, o_ishr, o_iushr, o_idiv, o_irem, o_ineg, o_dup, o_dup2, o_pop, o_if_eq, o_if_ne, o_if_lt, o_if_ge, o_if_gt, o_if_le, o_icmp_eq, o_icmp_ne, o_icmp_lt, o_icmp_ge, o_icmp_gt, o_icmp_le, o_nonnull, o_lsw2, o_iret, o_zret, o_vret, o_cV0, o_cV1, o_cV2, o_cV3, o_cV4, o_cV5, o_cV6, o_cS1, o_cS2, o_cS3, o_cS4, lg, lset, inB, pushv, c1, okr, at_, List.replicate, true_and, and_true, true_or, or_true, eq_self, forall_const, not_true_eq_false, not_false_eq_true, forall_eq, false_implies, true_implies,  List.length_nil, List.length_cons, Nat.zero_le, Nat.reduceAdd, Nat.reduceLeDiff, sh57k]
    refine r_full hV hRt ?_
    simp (disch := omega) only [ia1, ia2, ia3, ia4, inn, inm, i10, i01, i0n, i1n, i0m, i1m, o_push, o_iload, o_aload, o_istore, o_iinc, o_iadd, o_isub, o_imul, o_iand, o_ior, o_ixor, o_ishl, o_ishr, o_iushr, o_idiv, o_irem, o_ineg, o_dup, o_dup2, o_pop, o_if_eq, o_if_ne, o_if_lt, o_if_ge, o_if_gt, o_if_le, o_icmp_eq, o_icmp_ne, o_icmp_lt, o_icmp_ge, o_icmp_gt, o_icmp_le, o_nonnull, o_lsw2, o_iret, o_zret, o_vret, o_cV0, o_cV1, o_cV2, o_cV3, o_cV4, o_cV5, o_cV6, o_cS1, o_cS2, o_cS3, o_cS4, lg, lset, inB, pushv, c1, okr, at_, List.replicate, true_and, and_true, true_or, or_true, eq_self, forall_const, not_true_eq_false, not_false_eq_true, forall_eq, false_implies, true_implies,  List.length_nil, List.length_cons, Nat.zero_le, Nat.reduceAdd, Nat.reduceLeDiff, nEq, hse]
    rw [← hR0] at h
    exact h τ hfr hfr6 hP
  | succ r ih =>
    intro s g sp t k B τ x6 x7 hs hpc hk ht hg hjn hsp2 hcm hfr hfr6 hTt hP hR0
    have hRt : RAt τ V := hR.fr (hfr 58 (by omega))
    have hs7 : s < 128 := by omega
    have hps := pc_7 s hs7
    have hg4 : g < 4 := by
      rw [hg]; split
      · omega
      · exact famS_le hV _
    have hspb : sp ≤ best m V := Nat.le_trans jn_ge hjn
    obtain ⟨hBt, ⟨hCB, -, hclo⟩, hAD⟩ := id hTt
    apply kX5_layBest_19
    simp only [ia1, ia2, ia3, ia4, inn, inm, i10, i01, i0n, i1n, i0m, i1m, o_push, o_iload, o_aload, o_istore, o_iinc, o_iadd, o_isub, o_imul, o_iand, o_ior, o_ixor, o_ishl, o_ishr, o_iushr, o_idiv, o_irem, o_ineg, o_dup, o_dup2, o_pop, o_if_eq, o_if_ne, o_if_lt, o_if_ge, o_if_gt, o_if_le, o_icmp_eq, o_icmp_ne, o_icmp_lt, o_icmp_ge, o_icmp_gt, o_icmp_le, o_nonnull, o_lsw2, o_iret, o_zret, o_vret, o_cV0, o_cV1, o_cV2, o_cV3, o_cV4, o_cV5, o_cV6, o_cS1, o_cS2, o_cS3, o_cS4, lg, lset, inB, pushv, c1, okr, at_, List.replicate, true_and, and_true, true_or, or_true, eq_self, forall_const, not_true_eq_false, not_false_eq_true, forall_eq, false_implies, true_implies,  List.length_nil, List.length_cons, Nat.zero_le, Nat.reduceAdd, Nat.reduceLeDiff, sh57k]
    refine r_full hV hRt ?_
    simp (disch := omega) only [ia1, ia2, ia3, ia4, inn, inm, i10, i01, i0n, i1n, i0m, i1m, o_push, o_iload, o_aload, o_istore, o_iinc, o_iadd, o_isub, o_imul, o_iand, o_ior, o_ixor, o_ishl, o_ishr, o_iushr, o_idiv, o_irem, o_ineg, o_dup, o_dup2, o_pop, o_if_eq, o_if_ne, o_if_lt, o_if_ge, o_if_gt, o_if_le, o_icmp_eq, o_icmp_ne, o_icmp_lt, o_icmp_ge, o_icmp_gt, o_icmp_le, o_nonnull, o_lsw2, o_iret, o_zret, o_vret, o_cV0, o_cV1, o_cV2, o_cV3, o_cV4, o_cV5, o_cV6, o_cS1, o_cS2, o_cS3, o_cS4, lg, lset, inB, pushv, c1, okr, at_, List.replicate, true_and, and_true, true_or, or_true, eq_self, forall_const, not_true_eq_false, not_false_eq_true, forall_eq, false_implies, true_implies,  List.length_nil, List.length_cons, Nat.zero_le, Nat.reduceAdd, Nat.reduceLeDiff, nEq, n1]
    refine ⟨fun q => ?_, fun q => ?_⟩
    · subst q
      rw [sub_self_sd _ hf, lfR, if_pos rfl] at hR0
      rw [← hR0] at h
      exact h τ hfr hfr6 hP
    · have hl0 : sd (fullS V) s ≠ 0 := fun z => q (sd_eq0 (fullS V) hf s hs7 (full_sub hs) z)
      have hleft : sd (fullS V) s < 2 ^ V 9 := sd_sub full_lt2
      have hleft7 : sd (fullS V) s < 128 := by omega
      -- the time of this place
      have ht330 : t < 330 := by
        have hbt := enR_le (B := B) hV (k - 1)
        have : pc (sd (fullS V) s) ≥ 1 := by
          rcases Nat.eq_zero_or_pos (pc (sd (fullS V) s)) with z | z
          · exact absurd (pc_0 _ hleft7 z) hl0
          · exact z
        rw [ht]; unfold tmR; split <;> omega
      have hpN : plc s g t < (fullS V + 1) * 1320 := Nat.lt_of_lt_of_le (plc_lt hg4 ht330) (Nat.mul_le_mul_right 1320 (by omega))
      have e1 := plc_s (s := s) (l := g) (t := t) hg4 ht330
      have e2 := plc_l (s := s) (l := g) (t := t) hg4 ht330
      have e3 := plc_t (s := s) (l := g) (t := t) ht330
      have htp : t ≤ 47 * pc s := by
        rcases hCB _ hpN with z | z
        · rw [hcm] at z; exact absurd z (by decide)
        · rw [e1, e3] at z; exact z.2
      have hcl : ∀ b, okB V b → b &&& s = 0 → τ 65 (plc (s ||| b) (famS V b) (t + tk V g (famS V b))) = 1 := by
        intro b hb hbs
        have := hclo _ hpN hcm b hb (by rw [e1]; exact hbs)
        rw [e1, e2, e3] at this
        exact this
      have hLs : ∀ b, okB V b → b &&& s = 0 → τ 66 (plc (s ||| b) (famS V b) (t + tk V g (famS V b))) = nI (ML m V (sd (sd (fullS V) s) b) (famS V b) (t + tk V g (famS V b))) := by
        intro b hb hbs
        have hb7 := okB_lt hV hb
        have hf3 := famS_lt hV hb.1 hb.2.1
        have hk2 := tk_le hV g (famS V b)
        have hpo := pc_or s hs7 b hb7 hb.1 hbs
        have hsb : s ||| b < 2 ^ V 9 := Nat.or_lt_two_pow hs hb.2.1
        have hp7 := pc_7 (s ||| b) (by omega)
        have g1 := plc_s (s := s ||| b) (l := famS V b) (t := t + tk V g (famS V b)) (by omega) (by omega)
        have g2 := plc_l (s := s ||| b) (l := famS V b) (t := t + tk V g (famS V b)) (by omega) (by omega)
        have g3 := plc_t (s := s ||| b) (l := famS V b) (t := t + tk V g (famS V b)) (by omega)
        have hplt := Nat.lt_of_lt_of_le (plc_lt (s := s ||| b) (l := famS V b) (t := t + tk V g (famS V b)) (by omega) (by omega)) (Nat.mul_le_mul_right 1320 (show (s ||| b) + 1 ≤ fullS V + 1 by omega))
        have := hAD _ hplt (hcl b hb hbs)
        unfold mlq at this
        rw [g1, g2, g3, left_or hV hs7 hb7] at this
        exact this
      obtain ⟨w1, w2, w3, w4⟩ := fbS_spec (m := m) hV hleft hl0 hjn
      rw [lfR, if_neg hl0, ← ht] at hR0
      generalize hSe : fbS m V (sd (fullS V) s) g t sp (best m V) = S at w1 w2 w3 w4 hR0
      have hwm := (pB_iff hm hspb hsp2).mp w1
      have hbb : bnd m (best m V) sp ≤ best m V := by unfold bnd; split <;> omega
      suffices HB : ∀ n b (x7 : Option Value), b + n = S → 1 ≤ b → E G MX5_layBest (d + 6) 30 [some (.ref 57), some (.int (nI m)), some (.int (nI (bnd m (best m V) sp))), some (.int (nI s)), some (.int (nI g)), some (.int (nI t)), some (.int (nI b)), x7] [] τ Q from HB (S - 1) 1 _ (by omega) (by omega)
      have hS9 := w1.1.2.1
      intro n
      induction n with
      | zero =>
        intro b x7 hbn hb1
        obtain rfl : b = S := by omega
        have hf3 := famS_lt hV w1.1.1 hS9
        have hk2 := tk_le hV g (famS V b)
        have hbs := (left_sub (V := V) hs7 hS9 w3).mpr w1.2.1
        have hpo := pc_or s hs7 b w3 w1.1.1 hbs
        have hpd := pc_sd (sd (fullS V) s) hleft7 b w3 w1.1.1 w1.2.1
        have hsb : s ||| b < 2 ^ V 9 := Nat.or_lt_two_pow hs hS9
        have hp7 := pc_7 (s ||| b) (by omega)
        have hbt := bth_le (m := m) hV (S := b) (e := t + tk V g (famS V b)) (by omega)
        have hBb := hBt b hS9
        rw [rbw, if_pos w1.1] at hBb
        have htm := tm_add (V := V) (B := B) (k := k) (S := b) g hg
        rw [← ht] at htm
        have hmb : bth m V b (t + tk V g (famS V b)) ≤ bnd m (best m V) sp := Nat.le_trans jn_ge hwm.2.2
        -- the step
        have go : ∀ x, x = bnd m (best m V) (jn m sp (part m V b t (t + tk V g (famS V b)))) → ∀ x2 : Nat, bnd m (best m V) sp - x2 = x → x2 ≤ bnd m (best m V) sp → E G MX5_layBest (d + 6) 91 [some (.ref 57), some (.int (nI m)), some (.int (nI (bnd m (best m V) sp))), some (.int (nI s)), some (.int (nI g)), some (.int (nI (t + tk V g (famS V b)))), some (.int (nI b)), some (.int (nI (famS V b)))] [.int (nI x2), .int (nI (bnd m (best m V) sp))] τ Q := by
          intro x hx x2 hx2 hx3
          apply kX5_layBest_91
          simp (disch := omega) only [ia1, ia2, ia3, ia4, inn, inm, i10, i01, i0n, i1n, i0m, i1m, o_push, o_iload, o_aload, o_istore, o_iinc, o_iadd, o_isub, o_imul, o_iand, o_ior, o_ixor, o_ishl, o_ishr, o_iushr, o_idiv, o_irem, o_ineg, o_dup, o_dup2, o_pop, o_if_eq, o_if_ne, o_if_lt, o_if_ge, o_if_gt, o_if_le, o_icmp_eq, o_icmp_ne, o_icmp_lt, o_icmp_ge, o_icmp_gt, o_icmp_le, o_nonnull, o_lsw2, o_iret, o_zret, o_vret, o_cV0, o_cV1, o_cV2, o_cV3, o_cV4, o_cV5, o_cV6, o_cS1, o_cS2, o_cS3, o_cS4, lg, lset, inB, pushv, c1, okr, at_, List.replicate, true_and, and_true, true_or, or_true, eq_self, forall_const, not_true_eq_false, not_false_eq_true, forall_eq, false_implies, true_implies,  List.length_nil, List.length_cons, Nat.zero_le, Nat.reduceAdd, Nat.reduceLeDiff, nSub, fa_or, gM5, gM6, hP.1, stI sh62, wr_o, pM6, n1, nI_add]
          rw [hx2, hx]
          refine ih (s ||| b) (famS V b) (jn m sp (part m V b t (t + tk V g (famS V b)))) (t + tk V g (famS V b)) (k + 1) (upN B k b) _ _ _ hsb ?_ ?_ htm.symm ?_ ?_ ?_ ?_ ?_ ?_ ?_ ?_ ?_
          · rw [left_or hV hs7 w3]; omega
          · rw [left_or hV hs7 w3]; omega
          · rw [if_neg (by omega)]; simp [upN]
          · rw [left_or hV hs7 w3]; exact w1.2.2
          · intro hm2
            have := hsp2 hm2
            subst hm2
            simp [jn, part]; omega
          · rw [wr_o (by omega), wr_o (by omega)]; exact hcl b w1.1 hbs
          · intro a ha
            rw [wr_o (by omega), wr_o (by omega)]; exact hfr a ha
          · intro i hi
            rw [wr_n (by omega), wr_o (by omega)]; exact hfr6 i hi
          · exact hTt.fr (by rw [wr_o (by omega), wr_o (by omega)]) (by rw [wr_o (by omega), wr_o (by omega)]) (by rw [wr_o (by omega), wr_o (by omega)])
          · refine ⟨wr_s, by omega, fun i hi => ?_⟩
            rw [wr_o (by omega)]
            unfold upN
            by_cases hik : i = k
            · subst hik; rw [wr_s, if_pos rfl]; exact ⟨rfl, w3⟩
            · rw [wr_n (by omega), if_neg hik]; exact hP.2.2 i (by omega)
          · rw [left_or hV hs7 w3]; exact hR0
        apply kX5_layBest_30
        simp only [ia1, ia2, ia3, ia4, inn, inm, i10, i01, i0n, i1n, i0m, i1m, o_push, o_iload, o_aload, o_istore, o_iinc, o_iadd, o_isub, o_imul, o_iand, o_ior, o_ixor, o_ishl, o_ishr, o_iushr, o_idiv, o_irem, o_ineg, o_dup, o_dup2, o_pop, o_if_eq, o_if_ne, o_if_lt, o_if_ge, o_if_gt, o_if_le, o_icmp_eq, o_icmp_ne, o_icmp_lt, o_icmp_ge, o_icmp_gt, o_icmp_le, o_nonnull, o_lsw2, o_iret, o_zret, o_vret, o_cV0, o_cV1, o_cV2, o_cV3, o_cV4, o_cV5, o_cV6, o_cS1, o_cS2, o_cS3, o_cS4, lg, lset, inB, pushv, c1, okr, at_, List.replicate, true_and, and_true, true_or, or_true, eq_self, forall_const, not_true_eq_false, not_false_eq_true, forall_eq, false_implies, true_implies,  List.length_nil, List.length_cons, Nat.zero_le, Nat.reduceAdd, Nat.reduceLeDiff, sh57k]
        refine r_isWithin hV hm hRt hBt hs hg4 htp hS9 (by omega) (fun a b => hLs _ a b) (fun _ _ _ => ?_) (fun z => absurd hwm z)
        simp (disch := omega) only [ia1, ia2, ia3, ia4, inn, inm, i10, i01, i0n, i1n, i0m, i1m, o_push, o_iload, o_aload, o_istore, o_iinc, o_iadd, o_isub, o_imul, o_iand, o_ior, o_ixor, o_ishl, o_ishr, o_iushr, o_idiv, o_irem, o_ineg, o_dup, o_dup2, o_pop, o_if_eq, o_if_ne, o_if_lt, o_if_ge, o_if_gt, o_if_le, o_icmp_eq, o_icmp_ne, o_icmp_lt, o_icmp_ge, o_icmp_gt, o_icmp_le, o_nonnull, o_lsw2, o_iret, o_zret, o_vret, o_cV0, o_cV1, o_cV2, o_cV3, o_cV4, o_cV5, o_cV6, o_cS1, o_cS2, o_cS3, o_cS4, lg, lset, inB, pushv, c1, okr, at_, List.replicate, true_and, and_true, true_or, or_true, eq_self, forall_const, not_true_eq_false, not_false_eq_true, forall_eq, false_implies, true_implies,  List.length_nil, List.length_cons, Nat.zero_le, Nat.reduceAdd, Nat.reduceLeDiff, gM8, ldI sh64, hBb, sh57k]
        refine r_endOf hg4 hf3 hV hRt ?_
        simp (disch := omega) only [ia1, ia2, ia3, ia4, inn, inm, i10, i01, i0n, i1n, i0m, i1m, o_push, o_iload, o_aload, o_istore, o_iinc, o_iadd, o_isub, o_imul, o_iand, o_ior, o_ixor, o_ishl, o_ishr, o_iushr, o_idiv, o_irem, o_ineg, o_dup, o_dup2, o_pop, o_if_eq, o_if_ne, o_if_lt, o_if_ge, o_if_gt, o_if_le, o_icmp_eq, o_icmp_ne, o_icmp_lt, o_icmp_ge, o_icmp_gt, o_icmp_le, o_nonnull, o_lsw2, o_iret, o_zret, o_vret, o_cV0, o_cV1, o_cV2, o_cV3, o_cV4, o_cV5, o_cV6, o_cS1, o_cS2, o_cS3, o_cS4, lg, lset, inB, pushv, c1, okr, at_, List.replicate, true_and, and_true, true_or, or_true, eq_self, forall_const, not_true_eq_false, not_false_eq_true, forall_eq, false_implies, true_implies,  List.length_nil, List.length_cons, Nat.zero_le, Nat.reduceAdd, Nat.reduceLeDiff, n0, nEq, sh57k]
        refine ⟨fun q0 => r_both hm (by omega) (by omega) hV hRt ?_, fun q0 => ?_⟩
        · simp only [ia1, ia2, ia3, ia4, inn, inm, i10, i01, i0n, i1n, i0m, i1m, o_push, o_iload, o_aload, o_istore, o_iinc, o_iadd, o_isub, o_imul, o_iand, o_ior, o_ixor, o_ishl, o_ishr, o_iushr, o_idiv, o_irem, o_ineg, o_dup, o_dup2, o_pop, o_if_eq, o_if_ne, o_if_lt, o_if_ge, o_if_gt, o_if_le, o_icmp_eq, o_icmp_ne, o_icmp_lt, o_icmp_ge, o_icmp_gt, o_icmp_le, o_nonnull, o_lsw2, o_iret, o_zret, o_vret, o_cV0, o_cV1, o_cV2, o_cV3, o_cV4, o_cV5, o_cV6, o_cS1, o_cS2, o_cS3, o_cS4, lg, lset, inB, pushv, c1, okr, at_, List.replicate, true_and, and_true, true_or, or_true, eq_self, forall_const, not_true_eq_false, not_false_eq_true, forall_eq, false_implies, true_implies,  List.length_nil, List.length_cons, Nat.zero_le, Nat.reduceAdd, Nat.reduceLeDiff]
          refine go _ rfl _ ?_ hmb
          unfold bnd jn bth part at *
          obtain rfl | rfl | rfl : m = 1 ∨ m = 2 ∨ m = 3 := by omega
          · simp; omega
          · simp
          · simp; omega
        · refine go _ rfl 0 ?_ (Nat.zero_le _)
          subst q0
          unfold bnd
          simp
      | succ n ihn =>
        intro b x7 hbn hb1
        have hno : ¬ pB m V (sd (fullS V) s) g t sp (best m V) b := w4 b hb1 (by omega)
        rw [pB_iff hm hspb hsp2] at hno
        apply kX5_layBest_30
        simp only [ia1, ia2, ia3, ia4, inn, inm, i10, i01, i0n, i1n, i0m, i1m, o_push, o_iload, o_aload, o_istore, o_iinc, o_iadd, o_isub, o_imul, o_iand, o_ior, o_ixor, o_ishl, o_ishr, o_iushr, o_idiv, o_irem, o_ineg, o_dup, o_dup2, o_pop, o_if_eq, o_if_ne, o_if_lt, o_if_ge, o_if_gt, o_if_le, o_icmp_eq, o_icmp_ne, o_icmp_lt, o_icmp_ge, o_icmp_gt, o_icmp_le, o_nonnull, o_lsw2, o_iret, o_zret, o_vret, o_cV0, o_cV1, o_cV2, o_cV3, o_cV4, o_cV5, o_cV6, o_cS1, o_cS2, o_cS3, o_cS4, lg, lset, inB, pushv, c1, okr, at_, List.replicate, true_and, and_true, true_or, or_true, eq_self, forall_const, not_true_eq_false, not_false_eq_true, forall_eq, false_implies, true_implies,  List.length_nil, List.length_cons, Nat.zero_le, Nat.reduceAdd, Nat.reduceLeDiff, sh57k]
        refine r_isWithin hV hm hRt hBt hs hg4 htp (by omega) (by omega) (fun a b => hLs _ a b) (fun a1 a2 a3 => absurd ⟨a1, a2, a3⟩ hno) (fun _ => ?_)
        simp only [ia1, ia2, ia3, ia4, inn, inm, i10, i01, i0n, i1n, i0m, i1m, o_push, o_iload, o_aload, o_istore, o_iinc, o_iadd, o_isub, o_imul, o_iand, o_ior, o_ixor, o_ishl, o_ishr, o_iushr, o_idiv, o_irem, o_ineg, o_dup, o_dup2, o_pop, o_if_eq, o_if_ne, o_if_lt, o_if_ge, o_if_gt, o_if_le, o_icmp_eq, o_icmp_ne, o_icmp_lt, o_icmp_ge, o_icmp_gt, o_icmp_le, o_nonnull, o_lsw2, o_iret, o_zret, o_vret, o_cV0, o_cV1, o_cV2, o_cV3, o_cV4, o_cV5, o_cV6, o_cS1, o_cS2, o_cS3, o_cS4, lg, lset, inB, pushv, c1, okr, at_, List.replicate, true_and, and_true, true_or, or_true, eq_self, forall_const, not_true_eq_false, not_false_eq_true, forall_eq, false_implies, true_implies,  List.length_nil, List.length_cons, Nat.zero_le, Nat.reduceAdd, Nat.reduceLeDiff, n1, nI_add]
        exact ihn (b + 1) _ (by omega) (by omega)
end PLANM
