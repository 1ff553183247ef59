theorem tsw_of {Ks : List Kt} {Kd : Kt} {ls : Lc} {r : List Value} {σ : Mem} {x : Int32} (hl : Ks.length < 1000) (hd : (∀ i, i < Ks.length → x ≠ nI i) → Kd ls r σ) (hk : ∀ i, i < Ks.length → x = nI i → tsw Ks Kd i ls r σ) : o_tsw 0 Ks Kd ls (.int x :: r) σ := by
  refine ⟨fun q => hd (fun i hi e => ?_), fun i hi e => hk i hi ?_⟩
  · rw [e, nI_toInt (by omega)] at q
    omega
  · apply Int32.toInt_inj.mp
    rw [nI_toInt (by omega)]
    omega
theorem VOk_heat {V : Nat → Nat} (h : VOk V) {f x : Nat} (hf : f < 3) (hx : x ≤ 9) : VOk (upN V f x) := by
  have e : ∀ k, k ≠ f → upN V f x k = V k := fun k hk => by unfold upN; rw [if_neg hk]
  obtain ⟨h1, h2, h3, h4, h5, h6, h8⟩ := h
  refine ⟨fun i hi => ?_, by rw [e 6 (by omega)]; exact h2, by rw [e 7 (by omega)]; exact h3, by rw [e 8 (by omega)]; exact h4, by rw [e 9 (by omega)]; exact h5, fun i hi => ?_, fun i hi => ?_⟩
  · rw [e (3 + i) (by omega)]
    refine ⟨?_, (h1 i hi).2⟩
    unfold upN
    split
    · exact hx
    · exact (h1 i hi).1
  · rw [e (10 + i) (by omega), e (17 + i) (by omega), e (24 + i) (by omega)]; exact h6 i hi
  · rw [e 9 (by omega)] at hi
    rw [e (17 + i) (by omega)]; exact h8 i hi
theorem VOk_cook {V : Nat → Nat} (h : VOk V) {f x : Nat} (hf : f < 3) (hx1 : 1 ≤ x) (hx : x ≤ 20) : VOk (upN V (3 + f) x) := by
  have e : ∀ k, k ≠ 3 + f → upN V (3 + f) x k = V k := fun k hk => by unfold upN; rw [if_neg hk]
  obtain ⟨h1, h2, h3, h4, h5, h6, h8⟩ := h
  refine ⟨fun i hi => ?_, by rw [e 6 (by omega)]; exact h2, by rw [e 7 (by omega)]; exact h3, by rw [e 8 (by omega)]; exact h4, by rw [e 9 (by omega)]; exact h5, fun i hi => ?_, fun i hi => ?_⟩
  · rw [e i (by omega)]
    refine ⟨(h1 i hi).1, ?_⟩
    unfold upN
    split
    · exact ⟨hx1, hx⟩
    · exact (h1 i hi).2
  · rw [e (10 + i) (by omega), e (17 + i) (by omega), e (24 + i) (by omega)]; exact h6 i hi
  · rw [e 9 (by omega)] at hi
    rw [e (17 + i) (by omega)]; exact h8 i hi
theorem VOk_num {V : Nat → Nat} (h : VOk V) {k x : Nat} (hk : (k = 6 ∧ 9 ≤ x ∧ x ≤ 20) ∨ ((k = 7 ∨ k = 8) ∧ x ≤ 3)) : VOk (upN V k x) := by
  have e : ∀ i, i ≠ k → upN V k x i = V i := fun i hi => by unfold upN; rw [if_neg hi]
  have e2 : upN V k x k = x := by unfold upN; rw [if_pos rfl]
  obtain ⟨h1, h2, h3, h4, h5, h6, h8⟩ := h
  refine ⟨fun i hi => by rw [e i (by omega), e (3 + i) (by omega)]; exact h1 i hi, ?_, ?_, ?_, by rw [e 9 (by omega)]; exact h5, fun i hi => by rw [e (10 + i) (by omega), e (17 + i) (by omega), e (24 + i) (by omega)]; exact h6 i hi, fun i hi => ?_⟩
  · by_cases q : k = 6
    · subst q; rw [e2]; omega
    · rw [e 6 (by omega)]; exact h2
  · by_cases q : k = 7
    · subst q; rw [e2]; omega
    · rw [e 7 (by omega)]; exact h3
  · by_cases q : k = 8
    · subst q; rw [e2]; omega
    · rw [e 8 (by omega)]; exact h4
  · rw [e 9 (by omega)] at hi
    rw [e (17 + i) (by omega)]; exact h8 i hi
theorem VOk_take {V : Nat → Nat} (h : VOk V) {f v u : Nat} (hn : V 9 < 7) (hf : f < 3) (hv1 : 1 ≤ v) (hv : v ≤ 9) (hu : u ≤ 99) : VOk (tkV V f v u) := by
  obtain ⟨h1, h2, h3, h4, h5, h6, h8⟩ := h
  have e : ∀ k, k ≠ 9 → k ≠ 10 + V 9 → k ≠ 17 + V 9 → k ≠ 24 + V 9 → tkV V f v u k = V k := fun k a b c e => by unfold tkV upN; rw [if_neg a, if_neg e, if_neg c, if_neg b]
  have e9 : tkV V f v u 9 = V 9 + 1 := by unfold tkV upN; rw [if_pos rfl]
  have ef : tkV V f v u (10 + V 9) = f := by unfold tkV upN; rw [if_neg (by omega), if_neg (by omega), if_neg (by omega), if_pos rfl]
  have ev : tkV V f v u (17 + V 9) = v := by unfold tkV upN; rw [if_neg (by omega), if_neg (by omega), if_pos rfl]
  have eu : tkV V f v u (24 + V 9) = u := by unfold tkV upN; rw [if_neg (by omega), if_pos rfl]
  refine ⟨fun i hi => by rw [e i (by omega) (by omega) (by omega) (by omega), e (3 + i) (by omega) (by omega) (by omega) (by omega)]; exact h1 i hi, by rw [e 6 (by omega) (by omega) (by omega) (by omega)]; exact h2, by rw [e 7 (by omega) (by omega) (by omega) (by omega)]; exact h3, by rw [e 8 (by omega) (by omega) (by omega) (by omega)]; exact h4, by rw [e9]; omega, fun i hi => ?_, fun i hi => ?_⟩
  · by_cases q : i = V 9
    · subst q; rw [ef, ev, eu]; exact ⟨hf, hv, hu⟩
    · rw [e (10 + i) (by omega) (by omega) (by omega) (by omega), e (17 + i) (by omega) (by omega) (by omega) (by omega), e (24 + i) (by omega) (by omega) (by omega) (by omega)]; exact h6 i hi
  · rw [e9] at hi
    by_cases q : i = V 9
    · subst q; rw [ev]; exact hv1
    · rw [e (17 + i) (by omega) (by omega) (by omega) (by omega)]; exact h8 i (by omega)
theorem VOk_rm {V : Nat → Nat} (h : VOk V) {j : Nat} (hj : j < V 9) : VOk (rmV V j) := by
  obtain ⟨h1, h2, h3, h4, h5, h6, h8⟩ := h
  have e : ∀ k, k < 9 → rmV V j k = V k := fun k a => by unfold rmV; rw [if_neg (by omega), if_neg (by omega)]
  have e9 : rmV V j 9 = V 9 - 1 := by unfold rmV; rw [if_pos rfl]
  have ek : ∀ c i, c = 10 ∨ c = 17 ∨ c = 24 → i < 7 → rmV V j (c + i) = if j ≤ i ∧ i + 1 < V 9 then V (c + (i + 1)) else V (c + i) := by
    intro c i hc hi
    unfold rmV
    rw [if_neg (by omega)]
    by_cases q : j ≤ i ∧ i + 1 < V 9
    · rw [if_pos q, if_pos (by omega)]; rfl
    · rw [if_neg q, if_neg (by omega)]
  refine ⟨fun i hi => by rw [e i (by omega), e (3 + i) (by omega)]; exact h1 i hi, by rw [e 6 (by omega)]; exact h2, by rw [e 7 (by omega)]; exact h3, by rw [e 8 (by omega)]; exact h4, by rw [e9]; omega, fun i hi => ?_, fun i hi => ?_⟩
  · rw [ek 10 i (by omega) hi, ek 17 i (by omega) hi, ek 24 i (by omega) hi]
    by_cases q : j ≤ i ∧ i + 1 < V 9
    · rw [if_pos q, if_pos q, if_pos q]; exact h6 (i + 1) (by omega)
    · rw [if_neg q, if_neg q, if_neg q]; exact h6 i hi
  · rw [e9] at hi
    rw [ek 17 i (by omega) (by omega)]
    by_cases q : j ≤ i ∧ i + 1 < V 9
    · rw [if_pos q]; exact h8 (i + 1) (by omega)
    · rw [if_neg q]; exact h8 i (by omega)
theorem heat_at {σ : Mem} {b f x : Nat} {W : Nat → Nat} (hf : f < 3) (h : ShAt σ b W) : ShAt (wr σ (b + 1) f (nI x)) b (upN W f x) := by
  have e : ∀ k, k ≠ f → upN W f x k = W k := fun k hk => by unfold upN; rw [if_neg hk]
  refine ⟨fun i hi => ⟨?_, ?_⟩, ?_, fun i hi => ?_⟩
  · by_cases q : i = f
    · subst q; rw [wr_s]; unfold ht upN; rw [if_pos hf, if_pos rfl]
    · rw [wr_n (by omega), h.h i hi]
      congr 1
      unfold ht
      split
      · rw [e i q]
      · rfl
  · rw [wr_o (by omega), h.c i hi]
    congr 1
    unfold ck
    split
    · rw [e (3 + i) (by omega)]
    · rfl
  · rw [wr_o (by omega), e 6 (by omega), e 7 (by omega), e 8 (by omega), e 9 (by omega)]; exact h.2.1
  · rw [wr_o (by omega), wr_o (by omega), wr_o (by omega), e (10 + i) (by omega), e (17 + i) (by omega), e (24 + i) (by omega)]; exact h.2.2 i hi
theorem cook_at {σ : Mem} {b f x : Nat} {W : Nat → Nat} (hf : f < 3) (h : ShAt σ b W) : ShAt (wr σ (b + 2) f (nI x)) b (upN W (3 + f) x) := by
  have e : ∀ k, k ≠ 3 + f → upN W (3 + f) x k = W k := fun k hk => by unfold upN; rw [if_neg hk]
  refine ⟨fun i hi => ⟨?_, ?_⟩, ?_, fun i hi => ?_⟩
  · rw [wr_o (by omega), h.h i hi]
    congr 1
    unfold ht
    split
    · rw [e i (by omega)]
    · rfl
  · by_cases q : i = f
    · subst q; rw [wr_s]; unfold ck upN; rw [if_pos hf, if_pos rfl]
    · rw [wr_n (by omega), h.c i hi]
      congr 1
      unfold ck
      split
      · rw [e (3 + i) (by omega)]
      · rfl
  · rw [wr_o (by omega), e 6 (by omega), e 7 (by omega), e 8 (by omega), e 9 (by omega)]; exact h.2.1
  · rw [wr_o (by omega), wr_o (by omega), wr_o (by omega), e (10 + i) (by omega), e (17 + i) (by omega), e (24 + i) (by omega)]; exact h.2.2 i hi
theorem num_at {σ : Mem} {b k x : Nat} {W : Nat → Nat} (hk : k = 6 ∨ k = 7 ∨ k = 8) (h : ShAt σ b W) : ShAt (wr σ b (k - 4) (nI x)) b (upN W k x) := by
  have e : ∀ i, i ≠ k → upN W k x i = W i := fun i hi => by unfold upN; rw [if_neg hi]
  have e2 : upN W k x k = x := by unfold upN; rw [if_pos rfl]
  refine ⟨fun i hi => ?_, ⟨?_, ?_, ?_, ?_⟩, fun i hi => ?_⟩
  · rw [wr_o (by omega), wr_o (by omega), h.h i hi, h.c i hi]
    unfold ht ck
    constructor
    · congr 1
      split
      · rw [e i (by omega)]
      · rfl
    · congr 1
      split
      · rw [e (3 + i) (by omega)]
      · rfl
  · by_cases q : k = 6
    · subst q; rw [wr_s, e2]
    · rw [wr_n (by omega), e 6 (by omega)]; exact h.room
  · by_cases q : k = 7
    · subst q; rw [wr_s, e2]
    · rw [wr_n (by omega), e 7 (by omega)]; exact h.up
  · by_cases q : k = 8
    · subst q; rw [wr_s, e2]
    · rw [wr_n (by omega), e 8 (by omega)]; exact h.down
  · rw [wr_n (by omega), e 9 (by omega)]; exact h.n
  · rw [wr_o (by omega), wr_o (by omega), wr_o (by omega), e (10 + i) (by omega), e (17 + i) (by omega), e (24 + i) (by omega)]; exact h.2.2 i hi
theorem InvC.same {σ τ : Mem} {A : ASt} (h : InvC σ A) (hfr : ∀ a, (a < 28 ∨ 36 < a) → τ a = σ a) : InvC τ A := by
  refine ⟨h.1, h.2.1.fr (fun a _ _ => hfr a (by omega)), h.2.2.1.fr (fun a ha => hfr a (by omega)), fun m hm => ?_⟩
  rcases h.2.2.2 m hm with q | ⟨q1, q2, q3⟩
  · exact Or.inl (by rw [hfr 51 (by omega)]; exact q)
  · exact Or.inr ⟨by rw [hfr 51 (by omega)]; exact q1, by rw [hfr 50 (by omega)]; exact q2, q3.fr (fun a _ _ => hfr a (by omega))⟩
section PUBC
variable {G : Gp} {d : Nat} {Q : Option Value → Mem → Prop} {σ : Mem} {A : ASt}
theorem sp_Xfamily {f w v : Int32} (hI : InvC σ A) (h : ∀ τ, FrC σ τ → InvC τ (opFamily A f w v).2 → Q (some (.int (opFamily A f w v).1)) τ) : E G MX4_family (d + 20) 0 [some (.ref 0), some (.int f), some (.int w), some (.int v), none] [] σ Q := by
  obtain ⟨hV, hs, -, -⟩ := id hI
  have b51 : inR f 0 2 → ¬ (w = 0 ∧ inR v 0 9) → E G MX4_family (d + 20) 51 [some (.ref 0), some (.int f), some (.int w), some (.int v), none] [] σ Q := by
    intro h1 h2
    apply kX4_family_51
    simp only [ia1, ia2, ia3, ia4, inn, inm, i10, i01, i0n, i1n, i0m, i1m, o_push, o_iload, o_aload, o_istore, o_iinc, o_iadd, o_isub, o_imul, o_iand, o_ior, o_ixor, o_ishl, o_ishr, o_iushr, o_idiv, o_irem, o_ineg, o_dup, o_dup2, o_pop, o_if_eq, o_if_ne, o_if_lt, o_if_ge, o_if_gt, o_if_le, o_icmp_eq, o_icmp_ne, o_icmp_lt, o_icmp_ge, o_icmp_gt, o_icmp_le, o_nonnull, o_lsw2, o_iret, o_zret, o_vret, o_cV0, o_cV1, o_cV2, o_cV3, o_cV4, o_cV5, o_cV6, o_cS1, o_cS2, o_cS3, o_cS4, lg, lset, inB, pushv, c1, okr, at_, List.replicate, true_and, and_true, true_or, or_true, eq_self, forall_const, not_true_eq_false, not_false_eq_true, forall_eq, false_implies, true_implies,  List.length_nil, List.length_cons, Nat.zero_le, Nat.reduceAdd, Nat.reduceLeDiff]
    refine ⟨fun q => ?_, fun q => sp_isWithin (fun q2 => ?_) (fun q2 => ?_)⟩
    · have e : opFamily A f w v = (-2, A) := by rw [opFamily, if_neg (fun z => z h1), if_neg h2, if_neg (fun z => q z.1)]
      rw [e] at h
      exact h σ (fun _ _ => rfl) hI
    · obtain ⟨f', -, hf, rfl⟩ := inN (a := 0) (b := 2) (by omega) (by omega) (by rw [← n0, ← n2]; exact h1)
      obtain ⟨v', hv1, hv2, rfl⟩ := inN (a := 1) (b := 20) (by omega) (by omega) (by rw [← n1, ← n20]; exact q2)
      have e : opFamily A (nI f') w (nI v') = (nI (A.1 (3 + f')), setV A (3 + f') v') := by rw [opFamily, if_neg (fun z => z h1), if_neg h2, if_pos ⟨q, q2⟩, fI_n (by omega), fI_n (by omega)]
      rw [e] at h
      simp (disch := omega) only [ia1, ia2, ia3, ia4, inn, inm, i10, i01, i0n, i1n, i0m, i1m, o_push, o_iload, o_aload, o_istore, o_iinc, o_iadd, o_isub, o_imul, o_iand, o_ior, o_ixor, o_ishl, o_ishr, o_iushr, o_idiv, o_irem, o_ineg, o_dup, o_dup2, o_pop, o_if_eq, o_if_ne, o_if_lt, o_if_ge, o_if_gt, o_if_le, o_icmp_eq, o_icmp_ne, o_icmp_lt, o_icmp_ge, o_icmp_gt, o_icmp_le, o_nonnull, o_lsw2, o_iret, o_zret, o_vret, o_cV0, o_cV1, o_cV2, o_cV3, o_cV4, o_cV5, o_cV6, o_cS1, o_cS2, o_cS3, o_cS4, lg, lset, inB, pushv, c1, okr, at_, List.replicate, true_and, and_true, true_or, or_true, eq_self, forall_const, not_true_eq_false, not_false_eq_true, forall_eq, false_implies, true_implies,  List.length_nil, List.length_cons, Nat.zero_le, Nat.reduceAdd, Nat.reduceLeDiff, gH0, gS1 isSh1, ld4 isSh1.2.2.1, st4 isSh1.2.2.1, hs.c, sh0k]
      refine sp_forgetBest ?_
      simp only [ia1, ia2, ia3, ia4, inn, inm, i10, i01, i0n, i1n, i0m, i1m, o_push, o_iload, o_aload, o_istore, o_iinc, o_iadd, o_isub, o_imul, o_iand, o_ior, o_ixor, o_ishl, o_ishr, o_iushr, o_idiv, o_irem, o_ineg, o_dup, o_dup2, o_pop, o_if_eq, o_if_ne, o_if_lt, o_if_ge, o_if_gt, o_if_le, o_icmp_eq, o_icmp_ne, o_icmp_lt, o_icmp_ge, o_icmp_gt, o_icmp_le, o_nonnull, o_lsw2, o_iret, o_zret, o_vret, o_cV0, o_cV1, o_cV2, o_cV3, o_cV4, o_cV5, o_cV6, o_cS1, o_cS2, o_cS3, o_cS4, lg, lset, inB, pushv, c1, okr, at_, List.replicate, true_and, and_true, true_or, or_true, eq_self, forall_const, not_true_eq_false, not_false_eq_true, forall_eq, false_implies, true_implies,  List.length_nil, List.length_cons, Nat.zero_le, Nat.reduceAdd, Nat.reduceLeDiff]
      have hck : ck A.1 f' = A.1 (3 + f') := by unfold ck; rw [if_pos (by omega)]
      rw [hck]
      refine h _ (fun a ha => by rw [fz_o (by omega), wr_o (by omega)]) (hI.newV (VOk_cook hV (by omega) hv1 hv2) ((cook_at (by omega) hs).fr (fun a _ _ => fz_o (by omega))) (fun a h1 h2 => by rw [fz_o h2, wr_o (by omega)]) (fun m hm => fz_z hm))
    · have e : opFamily A f w v = (-2, A) := by rw [opFamily, if_neg (fun z => z h1), if_neg h2, if_neg (fun z => q2 z.2)]
      rw [e] at h
      simp only [ia1, ia2, ia3, ia4, inn, inm, i10, i01, i0n, i1n, i0m, i1m, o_push, o_iload, o_aload, o_istore, o_iinc, o_iadd, o_isub, o_imul, o_iand, o_ior, o_ixor, o_ishl, o_ishr, o_iushr, o_idiv, o_irem, o_ineg, o_dup, o_dup2, o_pop, o_if_eq, o_if_ne, o_if_lt, o_if_ge, o_if_gt, o_if_le, o_icmp_eq, o_icmp_ne, o_icmp_lt, o_icmp_ge, o_icmp_gt, o_icmp_le, o_nonnull, o_lsw2, o_iret, o_zret, o_vret, o_cV0, o_cV1, o_cV2, o_cV3, o_cV4, o_cV5, o_cV6, o_cS1, o_cS2, o_cS3, o_cS4, lg, lset, inB, pushv, c1, okr, at_, List.replicate, true_and, and_true, true_or, or_true, eq_self, forall_const, not_true_eq_false, not_false_eq_true, forall_eq, false_implies, true_implies,  List.length_nil, List.length_cons, Nat.zero_le, Nat.reduceAdd, Nat.reduceLeDiff]
      exact h σ (fun _ _ => rfl) hI
  apply kX4_family_0
  simp only [ia1, ia2, ia3, ia4, inn, inm, i10, i01, i0n, i1n, i0m, i1m, o_push, o_iload, o_aload, o_istore, o_iinc, o_iadd, o_isub, o_imul, o_iand, o_ior, o_ixor, o_ishl, o_ishr, o_iushr, o_idiv, o_irem, o_ineg, o_dup, o_dup2, o_pop, o_if_eq, o_if_ne, o_if_lt, o_if_ge, o_if_gt, o_if_le, o_icmp_eq, o_icmp_ne, o_icmp_lt, o_icmp_ge, o_icmp_gt, o_icmp_le, o_nonnull, o_lsw2, o_iret, o_zret, o_vret, o_cV0, o_cV1, o_cV2, o_cV3, o_cV4, o_cV5, o_cV6, o_cS1, o_cS2, o_cS3, o_cS4, lg, lset, inB, pushv, c1, okr, at_, List.replicate, true_and, and_true, true_or, or_true, eq_self, forall_const, not_true_eq_false, not_false_eq_true, forall_eq, false_implies, true_implies,  List.length_nil, List.length_cons, Nat.zero_le, Nat.reduceAdd, Nat.reduceLeDiff]
  refine sp_isFamily (fun q => ?_) (fun q => ?_)
  · simp only [ia1, ia2, ia3, ia4, inn, inm, i10, i01, i0n, i1n, i0m, i1m, o_push, o_iload, o_aload, o_istore, o_iinc, o_iadd, o_isub, o_imul, o_iand, o_ior, o_ixor, o_ishl, o_ishr, o_iushr, o_idiv, o_irem, o_ineg, o_dup, o_dup2, o_pop, o_if_eq, o_if_ne, o_if_lt, o_if_ge, o_if_gt, o_if_le, o_icmp_eq, o_icmp_ne, o_icmp_lt, o_icmp_ge, o_icmp_gt, o_icmp_le, o_nonnull, o_lsw2, o_iret, o_zret, o_vret, o_cV0, o_cV1, o_cV2, o_cV3, o_cV4, o_cV5, o_cV6, o_cS1, o_cS2, o_cS3, o_cS4, lg, lset, inB, pushv, c1, okr, at_, List.replicate, true_and, and_true, true_or, or_true, eq_self, forall_const, not_true_eq_false, not_false_eq_true, forall_eq, false_implies, true_implies,  List.length_nil, List.length_cons, Nat.zero_le, Nat.reduceAdd, Nat.reduceLeDiff]
    refine ⟨fun q2 => b51 q (fun z => q2 z.1), fun q2 => sp_isWithin (fun q3 => ?_) (fun q3 => ?_)⟩
    · obtain ⟨f', -, hf, rfl⟩ := inN (a := 0) (b := 2) (by omega) (by omega) (by rw [← n0, ← n2]; exact q)
      obtain ⟨v', -, hv2, rfl⟩ := inN (a := 0) (b := 9) (by omega) (by omega) (by rw [← n0, ← n9]; exact q3)
      have e : opFamily A (nI f') w (nI v') = (nI (A.1 f'), setV A f' v') := by rw [opFamily, if_neg (fun z => z q), if_pos ⟨q2, q3⟩, fI_n (by omega), fI_n (by omega)]
      rw [e] at h
      simp (disch := omega) only [ia1, ia2, ia3, ia4, inn, inm, i10, i01, i0n, i1n, i0m, i1m, o_push, o_iload, o_aload, o_istore, o_iinc, o_iadd, o_isub, o_imul, o_iand, o_ior, o_ixor, o_ishl, o_ishr, o_iushr, o_idiv, o_irem, o_ineg, o_dup, o_dup2, o_pop, o_if_eq, o_if_ne, o_if_lt, o_if_ge, o_if_gt, o_if_le, o_icmp_eq, o_icmp_ne, o_icmp_lt, o_icmp_ge, o_icmp_gt, o_icmp_le, o_nonnull, o_lsw2, o_iret, o_zret, o_vret, o_cV0, o_cV1, o_cV2, o_cV3, o_cV4, o_cV5, o_cV6, o_cS1, o_cS2, o_cS3, o_cS4, lg, lset, inB, pushv, c1, okr, at_, List.replicate, true_and, and_true, true_or, or_true, eq_self, forall_const, not_true_eq_false, not_false_eq_true, forall_eq, false_implies, true_implies,  List.length_nil, List.length_cons, Nat.zero_le, Nat.reduceAdd, Nat.reduceLeDiff, gH0, gS0 isSh1, ld4 isSh1.2.1, st4 isSh1.2.1, hs.h, sh0k]
      refine sp_forgetBest ?_
      simp only [ia1, ia2, ia3, ia4, inn, inm, i10, i01, i0n, i1n, i0m, i1m, o_push, o_iload, o_aload, o_istore, o_iinc, o_iadd, o_isub, o_imul, o_iand, o_ior, o_ixor, o_ishl, o_ishr, o_iushr, o_idiv, o_irem, o_ineg, o_dup, o_dup2, o_pop, o_if_eq, o_if_ne, o_if_lt, o_if_ge, o_if_gt, o_if_le, o_icmp_eq, o_icmp_ne, o_icmp_lt, o_icmp_ge, o_icmp_gt, o_icmp_le, o_nonnull, o_lsw2, o_iret, o_zret, o_vret, o_cV0, o_cV1, o_cV2, o_cV3, o_cV4, o_cV5, o_cV6, o_cS1, o_cS2, o_cS3, o_cS4, lg, lset, inB, pushv, c1, okr, at_, List.replicate, true_and, and_true, true_or, or_true, eq_self, forall_const, not_true_eq_false, not_false_eq_true, forall_eq, false_implies, true_implies,  List.length_nil, List.length_cons, Nat.zero_le, Nat.reduceAdd, Nat.reduceLeDiff]
      have hck : ht A.1 f' = A.1 f' := by unfold ht; rw [if_pos (by omega)]
      rw [hck]
      refine h _ (fun a ha => by rw [fz_o (by omega), wr_o (by omega)]) (hI.newV (VOk_heat hV (by omega) hv2) ((heat_at (by omega) hs).fr (fun a _ _ => fz_o (by omega))) (fun a h1 h2 => by rw [fz_o h2, wr_o (by omega)]) (fun m hm => fz_z hm))
    · simp only [ia1, ia2, ia3, ia4, inn, inm, i10, i01, i0n, i1n, i0m, i1m, o_push, o_iload, o_aload, o_istore, o_iinc, o_iadd, o_isub, o_imul, o_iand, o_ior, o_ixor, o_ishl, o_ishr, o_iushr, o_idiv, o_irem, o_ineg, o_dup, o_dup2, o_pop, o_if_eq, o_if_ne, o_if_lt, o_if_ge, o_if_gt, o_if_le, o_icmp_eq, o_icmp_ne, o_icmp_lt, o_icmp_ge, o_icmp_gt, o_icmp_le, o_nonnull, o_lsw2, o_iret, o_zret, o_vret, o_cV0, o_cV1, o_cV2, o_cV3, o_cV4, o_cV5, o_cV6, o_cS1, o_cS2, o_cS3, o_cS4, lg, lset, inB, pushv, c1, okr, at_, List.replicate, true_and, and_true, true_or, or_true, eq_self, forall_const, not_true_eq_false, not_false_eq_true, forall_eq, false_implies, true_implies,  List.length_nil, List.length_cons, Nat.zero_le, Nat.reduceAdd, Nat.reduceLeDiff]
      exact b51 q (fun z => q3 z.2)
  · simp only [ia1, ia2, ia3, ia4, inn, inm, i10, i01, i0n, i1n, i0m, i1m, o_push, o_iload, o_aload, o_istore, o_iinc, o_iadd, o_isub, o_imul, o_iand, o_ior, o_ixor, o_ishl, o_ishr, o_iushr, o_idiv, o_irem, o_ineg, o_dup, o_dup2, o_pop, o_if_eq, o_if_ne, o_if_lt, o_if_ge, o_if_gt, o_if_le, o_icmp_eq, o_icmp_ne, o_icmp_lt, o_icmp_ge, o_icmp_gt, o_icmp_le, o_nonnull, o_lsw2, o_iret, o_zret, o_vret, o_cV0, o_cV1, o_cV2, o_cV3, o_cV4, o_cV5, o_cV6, o_cS1, o_cS2, o_cS3, o_cS4, lg, lset, inB, pushv, c1, okr, at_, List.replicate, true_and, and_true, true_or, or_true, eq_self, forall_const, not_true_eq_false, not_false_eq_true, forall_eq, false_implies, true_implies,  List.length_nil, List.length_cons, Nat.zero_le, Nat.reduceAdd, Nat.reduceLeDiff]
    have e : opFamily A f w v = (-1, A) := by rw [opFamily, if_pos q]
    rw [e] at h
    exact h σ (fun _ _ => rfl) hI
theorem sp_Xset {w v : Int32} (hI : InvC σ A) (h : ∀ τ, FrC σ τ → InvC τ (opSet A w v).2 → Q (some (.int (opSet A w v).1)) τ) : E G MX4_set (d + 20) 0 [some (.ref 0), some (.int w), some (.int v), none] [] σ Q := by
  obtain ⟨hV, hs, -, -⟩ := id hI
  have neg2 : ∀ n, n < 100 → ¬ nI n = -2 := by decide +kernel
  have don : ∀ (k x : Nat), (k = 6 ∧ 9 ≤ x ∧ x ≤ 20) ∨ ((k = 7 ∨ k = 8) ∧ x ≤ 3) → opSet A w (nI x) = (nI (A.1 k), setV A k x) → v = nI x → Q (some (.int (nI (A.1 k)))) (fz (wr σ 1 (k - 4) (nI x))) := by
    intro k x hk e hv
    subst hv
    rw [e] at h
    exact h _ (fun a ha => by rw [fz_o (by omega), wr_o (by omega)]) (hI.newV (VOk_num hV hk) ((num_at (by omega) hs).fr (fun a _ _ => fz_o (by omega))) (fun a h1 h2 => by rw [fz_o h2, wr_o (by omega)]) (fun m hm => fz_z hm))
  have b70 : ¬ (w = 0 ∧ inR v 9 20) → ¬ (w = 1 ∧ inR v 0 3) → E G MX4_set (d + 20) 70 [some (.ref 0), some (.int w), some (.int v), some (.int (-2))] [] σ Q := by
    intro z1 z2
    apply kX4_set_70
    simp only [ia1, ia2, ia3, ia4, inn, inm, i10, i01, i0n, i1n, i0m, i1m, o_push, o_iload, o_aload, o_istore, o_iinc, o_iadd, o_isub, o_imul, o_iand, o_ior, o_ixor, o_ishl, o_ishr, o_iushr, o_idiv, o_irem, o_ineg, o_dup, o_dup2, o_pop, o_if_eq, o_if_ne, o_if_lt, o_if_ge, o_if_gt, o_if_le, o_icmp_eq, o_icmp_ne, o_icmp_lt, o_icmp_ge, o_icmp_gt, o_icmp_le, o_nonnull, o_lsw2, o_iret, o_zret, o_vret, o_cV0, o_cV1, o_cV2, o_cV3, o_cV4, o_cV5, o_cV6, o_cS1, o_cS2, o_cS3, o_cS4, lg, lset, inB, pushv, c1, okr, at_, List.replicate, true_and, and_true, true_or, or_true, eq_self, forall_const, not_true_eq_false, not_false_eq_true, forall_eq, false_implies, true_implies,  List.length_nil, List.length_cons, Nat.zero_le, Nat.reduceAdd, Nat.reduceLeDiff]
    refine ⟨fun q => ?_, fun q => sp_isWithin (fun q2 => ?_) (fun q2 => ?_)⟩
    · have e : opSet A w v = (-2, A) := by rw [opSet, if_neg z1, if_neg z2, if_neg (fun z => q z.1)]
      rw [e] at h
      exact h σ (fun _ _ => rfl) hI
    · obtain ⟨x, -, hx, rfl⟩ := inN (a := 0) (b := 3) (by omega) (by omega) (by rw [← n0, ← n3]; exact q2)
      simp only [ia1, ia2, ia3, ia4, inn, inm, i10, i01, i0n, i1n, i0m, i1m, o_push, o_iload, o_aload, o_istore, o_iinc, o_iadd, o_isub, o_imul, o_iand, o_ior, o_ixor, o_ishl, o_ishr, o_iushr, o_idiv, o_irem, o_ineg, o_dup, o_dup2, o_pop, o_if_eq, o_if_ne, o_if_lt, o_if_ge, o_if_gt, o_if_le, o_icmp_eq, o_icmp_ne, o_icmp_lt, o_icmp_ge, o_icmp_gt, o_icmp_le, o_nonnull, o_lsw2, o_iret, o_zret, o_vret, o_cV0, o_cV1, o_cV2, o_cV3, o_cV4, o_cV5, o_cV6, o_cS1, o_cS2, o_cS3, o_cS4, lg, lset, inB, pushv, c1, okr, at_, List.replicate, true_and, and_true, true_or, or_true, eq_self, forall_const, not_true_eq_false, not_false_eq_true, forall_eq, false_implies, true_implies,  List.length_nil, List.length_cons, Nat.zero_le, Nat.reduceAdd, Nat.reduceLeDiff, gH0, gS4 isSh1, pS4 isSh1, hs.down, sh0k]
      refine ⟨fun z => absurd z (neg2 _ (by have := hV.2.2.2.1; omega)), fun _ => sp_forgetBest ?_⟩
      simp only [ia1, ia2, ia3, ia4, inn, inm, i10, i01, i0n, i1n, i0m, i1m, o_push, o_iload, o_aload, o_istore, o_iinc, o_iadd, o_isub, o_imul, o_iand, o_ior, o_ixor, o_ishl, o_ishr, o_iushr, o_idiv, o_irem, o_ineg, o_dup, o_dup2, o_pop, o_if_eq, o_if_ne, o_if_lt, o_if_ge, o_if_gt, o_if_le, o_icmp_eq, o_icmp_ne, o_icmp_lt, o_icmp_ge, o_icmp_gt, o_icmp_le, o_nonnull, o_lsw2, o_iret, o_zret, o_vret, o_cV0, o_cV1, o_cV2, o_cV3, o_cV4, o_cV5, o_cV6, o_cS1, o_cS2, o_cS3, o_cS4, lg, lset, inB, pushv, c1, okr, at_, List.replicate, true_and, and_true, true_or, or_true, eq_self, forall_const, not_true_eq_false, not_false_eq_true, forall_eq, false_implies, true_implies,  List.length_nil, List.length_cons, Nat.zero_le, Nat.reduceAdd, Nat.reduceLeDiff]
      exact don 8 x (by omega) (by rw [opSet, if_neg z1, if_neg z2, if_pos ⟨q, q2⟩, fI_n (by omega)]) rfl
    · have e : opSet A w v = (-2, A) := by rw [opSet, if_neg z1, if_neg z2, if_neg (fun z => q2 z.2)]
      rw [e] at h
      simp only [ia1, ia2, ia3, ia4, inn, inm, i10, i01, i0n, i1n, i0m, i1m, o_push, o_iload, o_aload, o_istore, o_iinc, o_iadd, o_isub, o_imul, o_iand, o_ior, o_ixor, o_ishl, o_ishr, o_iushr, o_idiv, o_irem, o_ineg, o_dup, o_dup2, o_pop, o_if_eq, o_if_ne, o_if_lt, o_if_ge, o_if_gt, o_if_le, o_icmp_eq, o_icmp_ne, o_icmp_lt, o_icmp_ge, o_icmp_gt, o_icmp_le, o_nonnull, o_lsw2, o_iret, o_zret, o_vret, o_cV0, o_cV1, o_cV2, o_cV3, o_cV4, o_cV5, o_cV6, o_cS1, o_cS2, o_cS3, o_cS4, lg, lset, inB, pushv, c1, okr, at_, List.replicate, true_and, and_true, true_or, or_true, eq_self, forall_const, not_true_eq_false, not_false_eq_true, forall_eq, false_implies, true_implies,  List.length_nil, List.length_cons, Nat.zero_le, Nat.reduceAdd, Nat.reduceLeDiff]
      exact h σ (fun _ _ => rfl) hI
  have b37 : ¬ (w = 0 ∧ inR v 9 20) → E G MX4_set (d + 20) 37 [some (.ref 0), some (.int w), some (.int v), some (.int (-2))] [] σ Q := by
    intro z1
    apply kX4_set_37
    simp only [ia1, ia2, ia3, ia4, inn, inm, i10, i01, i0n, i1n, i0m, i1m, o_push, o_iload, o_aload, o_istore, o_iinc, o_iadd, o_isub, o_imul, o_iand, o_ior, o_ixor, o_ishl, o_ishr, o_iushr, o_idiv, o_irem, o_ineg, o_dup, o_dup2, o_pop, o_if_eq, o_if_ne, o_if_lt, o_if_ge, o_if_gt, o_if_le, o_icmp_eq, o_icmp_ne, o_icmp_lt, o_icmp_ge, o_icmp_gt, o_icmp_le, o_nonnull, o_lsw2, o_iret, o_zret, o_vret, o_cV0, o_cV1, o_cV2, o_cV3, o_cV4, o_cV5, o_cV6, o_cS1, o_cS2, o_cS3, o_cS4, lg, lset, inB, pushv, c1, okr, at_, List.replicate, true_and, and_true, true_or, or_true, eq_self, forall_const, not_true_eq_false, not_false_eq_true, forall_eq, false_implies, true_implies,  List.length_nil, List.length_cons, Nat.zero_le, Nat.reduceAdd, Nat.reduceLeDiff]
    refine ⟨fun q => b70 z1 (fun z => q z.1), fun q => sp_isWithin (fun q2 => ?_) (fun q2 => ?_)⟩
    · obtain ⟨x, -, hx, rfl⟩ := inN (a := 0) (b := 3) (by omega) (by omega) (by rw [← n0, ← n3]; exact q2)
      simp only [ia1, ia2, ia3, ia4, inn, inm, i10, i01, i0n, i1n, i0m, i1m, o_push, o_iload, o_aload, o_istore, o_iinc, o_iadd, o_isub, o_imul, o_iand, o_ior, o_ixor, o_ishl, o_ishr, o_iushr, o_idiv, o_irem, o_ineg, o_dup, o_dup2, o_pop, o_if_eq, o_if_ne, o_if_lt, o_if_ge, o_if_gt, o_if_le, o_icmp_eq, o_icmp_ne, o_icmp_lt, o_icmp_ge, o_icmp_gt, o_icmp_le, o_nonnull, o_lsw2, o_iret, o_zret, o_vret, o_cV0, o_cV1, o_cV2, o_cV3, o_cV4, o_cV5, o_cV6, o_cS1, o_cS2, o_cS3, o_cS4, lg, lset, inB, pushv, c1, okr, at_, List.replicate, true_and, and_true, true_or, or_true, eq_self, forall_const, not_true_eq_false, not_false_eq_true, forall_eq, false_implies, true_implies,  List.length_nil, List.length_cons, Nat.zero_le, Nat.reduceAdd, Nat.reduceLeDiff, gH0, gS3 isSh1, pS3 isSh1, hs.up, sh0k]
      refine ⟨fun z => absurd z (neg2 _ (by have := hV.2.2.1; omega)), fun _ => sp_forgetBest ?_⟩
      simp only [ia1, ia2, ia3, ia4, inn, inm, i10, i01, i0n, i1n, i0m, i1m, o_push, o_iload, o_aload, o_istore, o_iinc, o_iadd, o_isub, o_imul, o_iand, o_ior, o_ixor, o_ishl, o_ishr, o_iushr, o_idiv, o_irem, o_ineg, o_dup, o_dup2, o_pop, o_if_eq, o_if_ne, o_if_lt, o_if_ge, o_if_gt, o_if_le, o_icmp_eq, o_icmp_ne, o_icmp_lt, o_icmp_ge, o_icmp_gt, o_icmp_le, o_nonnull, o_lsw2, o_iret, o_zret, o_vret, o_cV0, o_cV1, o_cV2, o_cV3, o_cV4, o_cV5, o_cV6, o_cS1, o_cS2, o_cS3, o_cS4, lg, lset, inB, pushv, c1, okr, at_, List.replicate, true_and, and_true, true_or, or_true, eq_self, forall_const, not_true_eq_false, not_false_eq_true, forall_eq, false_implies, true_implies,  List.length_nil, List.length_cons, Nat.zero_le, Nat.reduceAdd, Nat.reduceLeDiff]
      exact don 7 x (by omega) (by rw [opSet, if_neg z1, if_pos ⟨q, q2⟩, fI_n (by omega)]) rfl
    · simp only [ia1, ia2, ia3, ia4, inn, inm, i10, i01, i0n, i1n, i0m, i1m, o_push, o_iload, o_aload, o_istore, o_iinc, o_iadd, o_isub, o_imul, o_iand, o_ior, o_ixor, o_ishl, o_ishr, o_iushr, o_idiv, o_irem, o_ineg, o_dup, o_dup2, o_pop, o_if_eq, o_if_ne, o_if_lt, o_if_ge, o_if_gt, o_if_le, o_icmp_eq, o_icmp_ne, o_icmp_lt, o_icmp_ge, o_icmp_gt, o_icmp_le, o_nonnull, o_lsw2, o_iret, o_zret, o_vret, o_cV0, o_cV1, o_cV2, o_cV3, o_cV4, o_cV5, o_cV6, o_cS1, o_cS2, o_cS3, o_cS4, lg, lset, inB, pushv, c1, okr, at_, List.replicate, true_and, and_true, true_or, or_true, eq_self, forall_const, not_true_eq_false, not_false_eq_true, forall_eq, false_implies, true_implies,  List.length_nil, List.length_cons, Nat.zero_le, Nat.reduceAdd, Nat.reduceLeDiff]
      exact b70 z1 (fun z => q2 z.2)
  apply kX4_set_0
  simp only [ia1, ia2, ia3, ia4, inn, inm, i10, i01, i0n, i1n, i0m, i1m, o_push, o_iload, o_aload, o_istore, o_iinc, o_iadd, o_isub, o_imul, o_iand, o_ior, o_ixor, o_ishl, o_ishr, o_iushr, o_idiv, o_irem, o_ineg, o_dup, o_dup2, o_pop, o_if_eq, o_if_ne, o_if_lt, o_if_ge, o_if_gt, o_if_le, o_icmp_eq, o_icmp_ne, o_icmp_lt, o_icmp_ge, o_icmp_gt, o_icmp_le, o_nonnull, o_lsw2, o_iret, o_zret, o_vret, o_cV0, o_cV1, o_cV2, o_cV3, o_cV4, o_cV5, o_cV6, o_cS1, o_cS2, o_cS3, o_cS4, lg, lset, inB, pushv, c1, okr, at_, List.replicate, true_and, and_true, true_or, or_true, eq_self, forall_const, not_true_eq_false, not_false_eq_true, forall_eq, false_implies, true_implies,  List.length_nil, List.length_cons, Nat.zero_le, Nat.reduceAdd, Nat.reduceLeDiff]
  refine ⟨fun q => b37 (fun z => q z.1), fun q => sp_isWithin (fun q2 => ?_) (fun q2 => ?_)⟩
  · obtain ⟨x, hx1, hx, rfl⟩ := inN (a := 9) (b := 20) (by omega) (by omega) (by rw [← n9, ← n20]; exact q2)
    simp only [ia1, ia2, ia3, ia4, inn, inm, i10, i01, i0n, i1n, i0m, i1m, o_push, o_iload, o_aload, o_istore, o_iinc, o_iadd, o_isub, o_imul, o_iand, o_ior, o_ixor, o_ishl, o_ishr, o_iushr, o_idiv, o_irem, o_ineg, o_dup, o_dup2, o_pop, o_if_eq, o_if_ne, o_if_lt, o_if_ge, o_if_gt, o_if_le, o_icmp_eq, o_icmp_ne, o_icmp_lt, o_icmp_ge, o_icmp_gt, o_icmp_le, o_nonnull, o_lsw2, o_iret, o_zret, o_vret, o_cV0, o_cV1, o_cV2, o_cV3, o_cV4, o_cV5, o_cV6, o_cS1, o_cS2, o_cS3, o_cS4, lg, lset, inB, pushv, c1, okr, at_, List.replicate, true_and, and_true, true_or, or_true, eq_self, forall_const, not_true_eq_false, not_false_eq_true, forall_eq, false_implies, true_implies,  List.length_nil, List.length_cons, Nat.zero_le, Nat.reduceAdd, Nat.reduceLeDiff, gH0, gS2 isSh1, pS2 isSh1, hs.room, sh0k]
    refine ⟨fun z => absurd z (neg2 _ (by have := hV.2.1; omega)), fun _ => sp_forgetBest ?_⟩
    simp only [ia1, ia2, ia3, ia4, inn, inm, i10, i01, i0n, i1n, i0m, i1m, o_push, o_iload, o_aload, o_istore, o_iinc, o_iadd, o_isub, o_imul, o_iand, o_ior, o_ixor, o_ishl, o_ishr, o_iushr, o_idiv, o_irem, o_ineg, o_dup, o_dup2, o_pop, o_if_eq, o_if_ne, o_if_lt, o_if_ge, o_if_gt, o_if_le, o_icmp_eq, o_icmp_ne, o_icmp_lt, o_icmp_ge, o_icmp_gt, o_icmp_le, o_nonnull, o_lsw2, o_iret, o_zret, o_vret, o_cV0, o_cV1, o_cV2, o_cV3, o_cV4, o_cV5, o_cV6, o_cS1, o_cS2, o_cS3, o_cS4, lg, lset, inB, pushv, c1, okr, at_, List.replicate, true_and, and_true, true_or, or_true, eq_self, forall_const, not_true_eq_false, not_false_eq_true, forall_eq, false_implies, true_implies,  List.length_nil, List.length_cons, Nat.zero_le, Nat.reduceAdd, Nat.reduceLeDiff]
    exact don 6 x (by omega) (by rw [opSet, if_pos ⟨q, q2⟩, fI_n (by omega)]) rfl
  · simp only [ia1, ia2, ia3, ia4, inn, inm, i10, i01, i0n, i1n, i0m, i1m, o_push, o_iload, o_aload, o_istore, o_iinc, o_iadd, o_isub, o_imul, o_iand, o_ior, o_ixor, o_ishl, o_ishr, o_iushr, o_idiv, o_irem, o_ineg, o_dup, o_dup2, o_pop, o_if_eq, o_if_ne, o_if_lt, o_if_ge, o_if_gt, o_if_le, o_icmp_eq, o_icmp_ne, o_icmp_lt, o_icmp_ge, o_icmp_gt, o_icmp_le, o_nonnull, o_lsw2, o_iret, o_zret, o_vret, o_cV0, o_cV1, o_cV2, o_cV3, o_cV4, o_cV5, o_cV6, o_cS1, o_cS2, o_cS3, o_cS4, lg, lset, inB, pushv, c1, okr, at_, List.replicate, true_and, and_true, true_or, or_true, eq_self, forall_const, not_true_eq_false, not_false_eq_true, forall_eq, false_implies, true_implies,  List.length_nil, List.length_cons, Nat.zero_le, Nat.reduceAdd, Nat.reduceLeDiff]
    exact b37 (fun z => q2 z.2)
theorem sp_Xjob {f v u : Int32} (hI : InvC σ A) (h : ∀ τ, FrC σ τ → InvC τ (opJob A f v u).2 → Q (some (.int (opJob A f v u).1)) τ) : E G MX4_job (d + 20) 0 [some (.ref 0), some (.int f), some (.int v), some (.int u)] [] σ Q := by
  obtain ⟨hV, hs, -, -⟩ := id hI
  have hn := hV.2.2.2.2.1
  apply kX4_job_0
  simp only [ia1, ia2, ia3, ia4, inn, inm, i10, i01, i0n, i1n, i0m, i1m, o_push, o_iload, o_aload, o_istore, o_iinc, o_iadd, o_isub, o_imul, o_iand, o_ior, o_ixor, o_ishl, o_ishr, o_iushr, o_idiv, o_irem, o_ineg, o_dup, o_dup2, o_pop, o_if_eq, o_if_ne, o_if_lt, o_if_ge, o_if_gt, o_if_le, o_icmp_eq, o_icmp_ne, o_icmp_lt, o_icmp_ge, o_icmp_gt, o_icmp_le, o_nonnull, o_lsw2, o_iret, o_zret, o_vret, o_cV0, o_cV1, o_cV2, o_cV3, o_cV4, o_cV5, o_cV6, o_cS1, o_cS2, o_cS3, o_cS4, lg, lset, inB, pushv, c1, okr, at_, List.replicate, true_and, and_true, true_or, or_true, eq_self, forall_const, not_true_eq_false, not_false_eq_true, forall_eq, false_implies, true_implies,  List.length_nil, List.length_cons, Nat.zero_le, Nat.reduceAdd, Nat.reduceLeDiff]
  refine sp_isFamily (fun q => ?_) (fun q => ?_)
  · simp only [ia1, ia2, ia3, ia4, inn, inm, i10, i01, i0n, i1n, i0m, i1m, o_push, o_iload, o_aload, o_istore, o_iinc, o_iadd, o_isub, o_imul, o_iand, o_ior, o_ixor, o_ishl, o_ishr, o_iushr, o_idiv, o_irem, o_ineg, o_dup, o_dup2, o_pop, o_if_eq, o_if_ne, o_if_lt, o_if_ge, o_if_gt, o_if_le, o_icmp_eq, o_icmp_ne, o_icmp_lt, o_icmp_ge, o_icmp_gt, o_icmp_le, o_nonnull, o_lsw2, o_iret, o_zret, o_vret, o_cV0, o_cV1, o_cV2, o_cV3, o_cV4, o_cV5, o_cV6, o_cS1, o_cS2, o_cS3, o_cS4, lg, lset, inB, pushv, c1, okr, at_, List.replicate, true_and, and_true, true_or, or_true, eq_self, forall_const, not_true_eq_false, not_false_eq_true, forall_eq, false_implies, true_implies,  List.length_nil, List.length_cons, Nat.zero_le, Nat.reduceAdd, Nat.reduceLeDiff]
    refine sp_isWithin (fun q2 => ?_) (fun q2 => ?_)
    · simp only [ia1, ia2, ia3, ia4, inn, inm, i10, i01, i0n, i1n, i0m, i1m, o_push, o_iload, o_aload, o_istore, o_iinc, o_iadd, o_isub, o_imul, o_iand, o_ior, o_ixor, o_ishl, o_ishr, o_iushr, o_idiv, o_irem, o_ineg, o_dup, o_dup2, o_pop, o_if_eq, o_if_ne, o_if_lt, o_if_ge, o_if_gt, o_if_le, o_icmp_eq, o_icmp_ne, o_icmp_lt, o_icmp_ge, o_icmp_gt, o_icmp_le, o_nonnull, o_lsw2, o_iret, o_zret, o_vret, o_cV0, o_cV1, o_cV2, o_cV3, o_cV4, o_cV5, o_cV6, o_cS1, o_cS2, o_cS3, o_cS4, lg, lset, inB, pushv, c1, okr, at_, List.replicate, true_and, and_true, true_or, or_true, eq_self, forall_const, not_true_eq_false, not_false_eq_true, forall_eq, false_implies, true_implies,  List.length_nil, List.length_cons, Nat.zero_le, Nat.reduceAdd, Nat.reduceLeDiff]
      refine sp_isWithin (fun q3 => ?_) (fun q3 => ?_)
      · simp (disch := omega) only [ia1, ia2, ia3, ia4, inn, inm, i10, i01, i0n, i1n, i0m, i1m, o_push, o_iload, o_aload, o_istore, o_iinc, o_iadd, o_isub, o_imul, o_iand, o_ior, o_ixor, o_ishl, o_ishr, o_iushr, o_idiv, o_irem, o_ineg, o_dup, o_dup2, o_pop, o_if_eq, o_if_ne, o_if_lt, o_if_ge, o_if_gt, o_if_le, o_icmp_eq, o_icmp_ne, o_icmp_lt, o_icmp_ge, o_icmp_gt, o_icmp_le, o_nonnull, o_lsw2, o_iret, o_zret, o_vret, o_cV0, o_cV1, o_cV2, o_cV3, o_cV4, o_cV5, o_cV6, o_cS1, o_cS2, o_cS3, o_cS4, lg, lset, inB, pushv, c1, okr, at_, List.replicate, true_and, and_true, true_or, or_true, eq_self, forall_const, not_true_eq_false, not_false_eq_true, forall_eq, false_implies, true_implies,  List.length_nil, List.length_cons, Nat.zero_le, Nat.reduceAdd, Nat.reduceLeDiff, gH0, gS5 isSh1, hs.n, n7, nLt, sh0k]
        refine ⟨fun q4 => sp_forgetBest ?_, fun q4 => ?_⟩
        · obtain ⟨f', -, hf, rfl⟩ := inN (a := 0) (b := 2) (by omega) (by omega) (by rw [← n0, ← n2]; exact q)
          obtain ⟨v', hv1, hv2, rfl⟩ := inN (a := 1) (b := 9) (by omega) (by omega) (by rw [← n1, ← n9]; exact q2)
          obtain ⟨u', -, hu, rfl⟩ := inN (a := 0) (b := 99) (by omega) (by omega) (by rw [← n0, ← n99]; exact q3)
          have e : opJob A (nI f') (nI v') (nI u') = (nI (A.1 9), (tkV A.1 f' v' u', A.2)) := by rw [opJob, if_neg (fun z => z q), if_neg (fun z => z ⟨q2, q3⟩), if_neg (by omega), fI_n (by omega), fI_n (by omega), fI_n (by omega)]
          rw [e] at h
          have hs1 : ShAt (fz σ) 1 A.1 := hs.fr (fun a _ _ => fz_o (by omega))
          simp only [ia1, ia2, ia3, ia4, inn, inm, i10, i01, i0n, i1n, i0m, i1m, o_push, o_iload, o_aload, o_istore, o_iinc, o_iadd, o_isub, o_imul, o_iand, o_ior, o_ixor, o_ishl, o_ishr, o_iushr, o_idiv, o_irem, o_ineg, o_dup, o_dup2, o_pop, o_if_eq, o_if_ne, o_if_lt, o_if_ge, o_if_gt, o_if_le, o_icmp_eq, o_icmp_ne, o_icmp_lt, o_icmp_ge, o_icmp_gt, o_icmp_le, o_nonnull, o_lsw2, o_iret, o_zret, o_vret, o_cV0, o_cV1, o_cV2, o_cV3, o_cV4, o_cV5, o_cV6, o_cS1, o_cS2, o_cS3, o_cS4, lg, lset, inB, pushv, c1, okr, at_, List.replicate, true_and, and_true, true_or, or_true, eq_self, forall_const, not_true_eq_false, not_false_eq_true, forall_eq, false_implies, true_implies,  List.length_nil, List.length_cons, Nat.zero_le, Nat.reduceAdd, Nat.reduceLeDiff, gH0, isSh1.k]
          refine sp_take (by omega) q4 isSh1 hs1 (fun τ f1 hst => ?_)
          simp only [ia1, ia2, ia3, ia4, inn, inm, i10, i01, i0n, i1n, i0m, i1m, o_push, o_iload, o_aload, o_istore, o_iinc, o_iadd, o_isub, o_imul, o_iand, o_ior, o_ixor, o_ishl, o_ishr, o_iushr, o_idiv, o_irem, o_ineg, o_dup, o_dup2, o_pop, o_if_eq, o_if_ne, o_if_lt, o_if_ge, o_if_gt, o_if_le, o_icmp_eq, o_icmp_ne, o_icmp_lt, o_icmp_ge, o_icmp_gt, o_icmp_le, o_nonnull, o_lsw2, o_iret, o_zret, o_vret, o_cV0, o_cV1, o_cV2, o_cV3, o_cV4, o_cV5, o_cV6, o_cS1, o_cS2, o_cS3, o_cS4, lg, lset, inB, pushv, c1, okr, at_, List.replicate, true_and, and_true, true_or, or_true, eq_self, forall_const, not_true_eq_false, not_false_eq_true, forall_eq, false_implies, true_implies,  List.length_nil, List.length_cons, Nat.zero_le, Nat.reduceAdd, Nat.reduceLeDiff]
          exact h τ (fun a ha => by rw [f1 a (by omega), fz_o (by omega)]) (hI.newV (VOk_take hV q4 (by omega) hv1 hv2 hu) hst (fun a h1 h2 => by rw [f1 a (by omega), fz_o h2]) (fun m hm => by rw [f1 51 (by omega)]; exact fz_z hm))
        · have e : opJob A f v u = (-4, A) := by rw [opJob, if_neg (fun z => z q), if_neg (fun z => z ⟨q2, q3⟩), if_pos (by omega)]
          rw [e] at h
          exact h σ (fun _ _ => rfl) hI
      · simp only [ia1, ia2, ia3, ia4, inn, inm, i10, i01, i0n, i1n, i0m, i1m, o_push, o_iload, o_aload, o_istore, o_iinc, o_iadd, o_isub, o_imul, o_iand, o_ior, o_ixor, o_ishl, o_ishr, o_iushr, o_idiv, o_irem, o_ineg, o_dup, o_dup2, o_pop, o_if_eq, o_if_ne, o_if_lt, o_if_ge, o_if_gt, o_if_le, o_icmp_eq, o_icmp_ne, o_icmp_lt, o_icmp_ge, o_icmp_gt, o_icmp_le, o_nonnull, o_lsw2, o_iret, o_zret, o_vret, o_cV0, o_cV1, o_cV2, o_cV3, o_cV4, o_cV5, o_cV6, o_cS1, o_cS2, o_cS3, o_cS4, lg, lset, inB, pushv, c1, okr, at_, List.replicate, true_and, and_true, true_or, or_true, eq_self, forall_const, not_true_eq_false, not_false_eq_true, forall_eq, false_implies, true_implies,  List.length_nil, List.length_cons, Nat.zero_le, Nat.reduceAdd, Nat.reduceLeDiff]
        have e : opJob A f v u = (-2, A) := by rw [opJob, if_neg (fun z => z q), if_pos (fun z => q3 z.2)]
        rw [e] at h
        exact h σ (fun _ _ => rfl) hI
    · simp only [ia1, ia2, ia3, ia4, inn, inm, i10, i01, i0n, i1n, i0m, i1m, o_push, o_iload, o_aload, o_istore, o_iinc, o_iadd, o_isub, o_imul, o_iand, o_ior, o_ixor, o_ishl, o_ishr, o_iushr, o_idiv, o_irem, o_ineg, o_dup, o_dup2, o_pop, o_if_eq, o_if_ne, o_if_lt, o_if_ge, o_if_gt, o_if_le, o_icmp_eq, o_icmp_ne, o_icmp_lt, o_icmp_ge, o_icmp_gt, o_icmp_le, o_nonnull, o_lsw2, o_iret, o_zret, o_vret, o_cV0, o_cV1, o_cV2, o_cV3, o_cV4, o_cV5, o_cV6, o_cS1, o_cS2, o_cS3, o_cS4, lg, lset, inB, pushv, c1, okr, at_, List.replicate, true_and, and_true, true_or, or_true, eq_self, forall_const, not_true_eq_false, not_false_eq_true, forall_eq, false_implies, true_implies,  List.length_nil, List.length_cons, Nat.zero_le, Nat.reduceAdd, Nat.reduceLeDiff]
      have e : opJob A f v u = (-2, A) := by rw [opJob, if_neg (fun z => z q), if_pos (fun z => q2 z.1)]
      rw [e] at h
      exact h σ (fun _ _ => rfl) hI
  · simp only [ia1, ia2, ia3, ia4, inn, inm, i10, i01, i0n, i1n, i0m, i1m, o_push, o_iload, o_aload, o_istore, o_iinc, o_iadd, o_isub, o_imul, o_iand, o_ior, o_ixor, o_ishl, o_ishr, o_iushr, o_idiv, o_irem, o_ineg, o_dup, o_dup2, o_pop, o_if_eq, o_if_ne, o_if_lt, o_if_ge, o_if_gt, o_if_le, o_icmp_eq, o_icmp_ne, o_icmp_lt, o_icmp_ge, o_icmp_gt, o_icmp_le, o_nonnull, o_lsw2, o_iret, o_zret, o_vret, o_cV0, o_cV1, o_cV2, o_cV3, o_cV4, o_cV5, o_cV6, o_cS1, o_cS2, o_cS3, o_cS4, lg, lset, inB, pushv, c1, okr, at_, List.replicate, true_and, and_true, true_or, or_true, eq_self, forall_const, not_true_eq_false, not_false_eq_true, forall_eq, false_implies, true_implies,  List.length_nil, List.length_cons, Nat.zero_le, Nat.reduceAdd, Nat.reduceLeDiff]
    have e : opJob A f v u = (-1, A) := by rw [opJob, if_pos q]
    rw [e] at h
    exact h σ (fun _ _ => rfl) hI
theorem sp_Xdrop {j : Int32} (hI : InvC σ A) (h : ∀ τ, FrC σ τ → InvC τ (opDrop A j).2 → Q (some (.int (opDrop A j).1)) τ) : E G MX4_drop (d + 20) 0 [some (.ref 0), some (.int j)] [] σ Q := by
  obtain ⟨hV, hs, -, -⟩ := id hI
  have hn := hV.2.2.2.2.1
  apply kX4_drop_0
  simp only [ia1, ia2, ia3, ia4, inn, inm, i10, i01, i0n, i1n, i0m, i1m, o_push, o_iload, o_aload, o_istore, o_iinc, o_iadd, o_isub, o_imul, o_iand, o_ior, o_ixor, o_ishl, o_ishr, o_iushr, o_idiv, o_irem, o_ineg, o_dup, o_dup2, o_pop, o_if_eq, o_if_ne, o_if_lt, o_if_ge, o_if_gt, o_if_le, o_icmp_eq, o_icmp_ne, o_icmp_lt, o_icmp_ge, o_icmp_gt, o_icmp_le, o_nonnull, o_lsw2, o_iret, o_zret, o_vret, o_cV0, o_cV1, o_cV2, o_cV3, o_cV4, o_cV5, o_cV6, o_cS1, o_cS2, o_cS3, o_cS4, lg, lset, inB, pushv, c1, okr, at_, List.replicate, true_and, and_true, true_or, or_true, eq_self, forall_const, not_true_eq_false, not_false_eq_true, forall_eq, false_implies, true_implies,  List.length_nil, List.length_cons, Nat.zero_le, Nat.reduceAdd, Nat.reduceLeDiff, sh0k]
  refine sp_isJob (fun q => ?_) (fun q => ?_)
  · rw [hs.n] at q
    simp only [ia1, ia2, ia3, ia4, inn, inm, i10, i01, i0n, i1n, i0m, i1m, o_push, o_iload, o_aload, o_istore, o_iinc, o_iadd, o_isub, o_imul, o_iand, o_ior, o_ixor, o_ishl, o_ishr, o_iushr, o_idiv, o_irem, o_ineg, o_dup, o_dup2, o_pop, o_if_eq, o_if_ne, o_if_lt, o_if_ge, o_if_gt, o_if_le, o_icmp_eq, o_icmp_ne, o_icmp_lt, o_icmp_ge, o_icmp_gt, o_icmp_le, o_nonnull, o_lsw2, o_iret, o_zret, o_vret, o_cV0, o_cV1, o_cV2, o_cV3, o_cV4, o_cV5, o_cV6, o_cS1, o_cS2, o_cS3, o_cS4, lg, lset, inB, pushv, c1, okr, at_, List.replicate, true_and, and_true, true_or, or_true, eq_self, forall_const, not_true_eq_false, not_false_eq_true, forall_eq, false_implies, true_implies,  List.length_nil, List.length_cons, Nat.zero_le, Nat.reduceAdd, Nat.reduceLeDiff, sh0k]
    refine sp_forgetBest ?_
    have hs1 : ShAt (fz σ) 1 A.1 := hs.fr (fun a _ _ => fz_o (by omega))
    obtain ⟨j', hj, rfl⟩ := inJ hn q
    have e : opDrop A (nI j') = (nI (A.1 9 - 1), (rmV A.1 j', A.2)) := by rw [opDrop, if_neg (fun z => z q), fI_n (by omega)]
    rw [e] at h
    simp only [ia1, ia2, ia3, ia4, inn, inm, i10, i01, i0n, i1n, i0m, i1m, o_push, o_iload, o_aload, o_istore, o_iinc, o_iadd, o_isub, o_imul, o_iand, o_ior, o_ixor, o_ishl, o_ishr, o_iushr, o_idiv, o_irem, o_ineg, o_dup, o_dup2, o_pop, o_if_eq, o_if_ne, o_if_lt, o_if_ge, o_if_gt, o_if_le, o_icmp_eq, o_icmp_ne, o_icmp_lt, o_icmp_ge, o_icmp_gt, o_icmp_le, o_nonnull, o_lsw2, o_iret, o_zret, o_vret, o_cV0, o_cV1, o_cV2, o_cV3, o_cV4, o_cV5, o_cV6, o_cS1, o_cS2, o_cS3, o_cS4, lg, lset, inB, pushv, c1, okr, at_, List.replicate, true_and, and_true, true_or, or_true, eq_self, forall_const, not_true_eq_false, not_false_eq_true, forall_eq, false_implies, true_implies,  List.length_nil, List.length_cons, Nat.zero_le, Nat.reduceAdd, Nat.reduceLeDiff, gH0, isSh1.k]
    refine sp_remove isSh1 hV hs1 hj (fun τ f1 hst => ?_)
    simp only [ia1, ia2, ia3, ia4, inn, inm, i10, i01, i0n, i1n, i0m, i1m, o_push, o_iload, o_aload, o_istore, o_iinc, o_iadd, o_isub, o_imul, o_iand, o_ior, o_ixor, o_ishl, o_ishr, o_iushr, o_idiv, o_irem, o_ineg, o_dup, o_dup2, o_pop, o_if_eq, o_if_ne, o_if_lt, o_if_ge, o_if_gt, o_if_le, o_icmp_eq, o_icmp_ne, o_icmp_lt, o_icmp_ge, o_icmp_gt, o_icmp_le, o_nonnull, o_lsw2, o_iret, o_zret, o_vret, o_cV0, o_cV1, o_cV2, o_cV3, o_cV4, o_cV5, o_cV6, o_cS1, o_cS2, o_cS3, o_cS4, lg, lset, inB, pushv, c1, okr, at_, List.replicate, true_and, and_true, true_or, or_true, eq_self, forall_const, not_true_eq_false, not_false_eq_true, forall_eq, false_implies, true_implies,  List.length_nil, List.length_cons, Nat.zero_le, Nat.reduceAdd, Nat.reduceLeDiff, gH0, gS5 isSh1, hst.n]
    have e9 : rmV A.1 j' 9 = A.1 9 - 1 := by unfold rmV; rw [if_pos rfl]
    rw [e9]
    exact h τ (fun a ha => by rw [f1 a (by omega), fz_o (by omega)]) (hI.newV (VOk_rm hV hj) hst (fun a h1 h2 => by rw [f1 a (by omega), fz_o h2]) (fun m hm => by rw [f1 51 (by omega)]; exact fz_z hm))
  · rw [hs.n] at q
    simp only [ia1, ia2, ia3, ia4, inn, inm, i10, i01, i0n, i1n, i0m, i1m, o_push, o_iload, o_aload, o_istore, o_iinc, o_iadd, o_isub, o_imul, o_iand, o_ior, o_ixor, o_ishl, o_ishr, o_iushr, o_idiv, o_irem, o_ineg, o_dup, o_dup2, o_pop, o_if_eq, o_if_ne, o_if_lt, o_if_ge, o_if_gt, o_if_le, o_icmp_eq, o_icmp_ne, o_icmp_lt, o_icmp_ge, o_icmp_gt, o_icmp_le, o_nonnull, o_lsw2, o_iret, o_zret, o_vret, o_cV0, o_cV1, o_cV2, o_cV3, o_cV4, o_cV5, o_cV6, o_cS1, o_cS2, o_cS3, o_cS4, lg, lset, inB, pushv, c1, okr, at_, List.replicate, true_and, and_true, true_or, or_true, eq_self, forall_const, not_true_eq_false, not_false_eq_true, forall_eq, false_implies, true_implies,  List.length_nil, List.length_cons, Nat.zero_le, Nat.reduceAdd, Nat.reduceLeDiff]
    have e : opDrop A j = (-1, A) := by rw [opDrop, if_pos q]
    rw [e] at h
    exact h σ (fun _ _ => rfl) hI
theorem sp_Xdue {j u : Int32} (hI : InvC σ A) (h : ∀ τ, FrC σ τ → InvC τ (opDue A j u).2 → Q (some (.int (opDue A j u).1)) τ) : E G MX4_due (d + 20) 0 [some (.ref 0), some (.int j), some (.int u), none] [] σ Q := by
  obtain ⟨hV, hs, -, -⟩ := id hI
  have hn := hV.2.2.2.2.1
  apply kX4_due_0
  simp only [ia1, ia2, ia3, ia4, inn, inm, i10, i01, i0n, i1n, i0m, i1m, o_push, o_iload, o_aload, o_istore, o_iinc, o_iadd, o_isub, o_imul, o_iand, o_ior, o_ixor, o_ishl, o_ishr, o_iushr, o_idiv, o_irem, o_ineg, o_dup, o_dup2, o_pop, o_if_eq, o_if_ne, o_if_lt, o_if_ge, o_if_gt, o_if_le, o_icmp_eq, o_icmp_ne, o_icmp_lt, o_icmp_ge, o_icmp_gt, o_icmp_le, o_nonnull, o_lsw2, o_iret, o_zret, o_vret, o_cV0, o_cV1, o_cV2, o_cV3, o_cV4, o_cV5, o_cV6, o_cS1, o_cS2, o_cS3, o_cS4, lg, lset, inB, pushv, c1, okr, at_, List.replicate, true_and, and_true, true_or, or_true, eq_self, forall_const, not_true_eq_false, not_false_eq_true, forall_eq, false_implies, true_implies,  List.length_nil, List.length_cons, Nat.zero_le, Nat.reduceAdd, Nat.reduceLeDiff, sh0k]
  refine sp_isJob (fun q => ?_) (fun q => ?_)
  · rw [hs.n] at q
    simp only [ia1, ia2, ia3, ia4, inn, inm, i10, i01, i0n, i1n, i0m, i1m, o_push, o_iload, o_aload, o_istore, o_iinc, o_iadd, o_isub, o_imul, o_iand, o_ior, o_ixor, o_ishl, o_ishr, o_iushr, o_idiv, o_irem, o_ineg, o_dup, o_dup2, o_pop, o_if_eq, o_if_ne, o_if_lt, o_if_ge, o_if_gt, o_if_le, o_icmp_eq, o_icmp_ne, o_icmp_lt, o_icmp_ge, o_icmp_gt, o_icmp_le, o_nonnull, o_lsw2, o_iret, o_zret, o_vret, o_cV0, o_cV1, o_cV2, o_cV3, o_cV4, o_cV5, o_cV6, o_cS1, o_cS2, o_cS3, o_cS4, lg, lset, inB, pushv, c1, okr, at_, List.replicate, true_and, and_true, true_or, or_true, eq_self, forall_const, not_true_eq_false, not_false_eq_true, forall_eq, false_implies, true_implies,  List.length_nil, List.length_cons, Nat.zero_le, Nat.reduceAdd, Nat.reduceLeDiff]
    refine sp_isWithin (fun q2 => ?_) (fun q2 => ?_)
    · obtain ⟨j', hj, rfl⟩ := inJ hn q
      obtain ⟨u', -, hu, rfl⟩ := inN (a := 0) (b := 99) (by omega) (by omega) (by rw [← n0, ← n99]; exact q2)
      have e : opDue A (nI j') (nI u') = (nI (A.1 (24 + j')), setV A (24 + j') u') := by rw [opDue, if_neg (fun z => z q), if_neg (fun z => z q2), fI_n (by omega), fI_n (by omega)]
      rw [e] at h
      simp (disch := omega) only [ia1, ia2, ia3, ia4, inn, inm, i10, i01, i0n, i1n, i0m, i1m, o_push, o_iload, o_aload, o_istore, o_iinc, o_iadd, o_isub, o_imul, o_iand, o_ior, o_ixor, o_ishl, o_ishr, o_iushr, o_idiv, o_irem, o_ineg, o_dup, o_dup2, o_pop, o_if_eq, o_if_ne, o_if_lt, o_if_ge, o_if_gt, o_if_le, o_icmp_eq, o_icmp_ne, o_icmp_lt, o_icmp_ge, o_icmp_gt, o_icmp_le, o_nonnull, o_lsw2, o_iret, o_zret, o_vret, o_cV0, o_cV1, o_cV2, o_cV3, o_cV4, o_cV5, o_cV6, o_cS1, o_cS2, o_cS3, o_cS4, lg, lset, inB, pushv, c1, okr, at_, List.replicate, true_and, and_true, true_or, or_true, eq_self, forall_const, not_true_eq_false, not_false_eq_true, forall_eq, false_implies, true_implies,  List.length_nil, List.length_cons, Nat.zero_le, Nat.reduceAdd, Nat.reduceLeDiff, gH0, gS8 isSh1, ld7 isSh1.2.2.2.2.2, st7 isSh1.2.2.2.2.2, hs.d, sh0k]
      refine sp_forgetBest ?_
      simp only [ia1, ia2, ia3, ia4, inn, inm, i10, i01, i0n, i1n, i0m, i1m, o_push, o_iload, o_aload, o_istore, o_iinc, o_iadd, o_isub, o_imul, o_iand, o_ior, o_ixor, o_ishl, o_ishr, o_iushr, o_idiv, o_irem, o_ineg, o_dup, o_dup2, o_pop, o_if_eq, o_if_ne, o_if_lt, o_if_ge, o_if_gt, o_if_le, o_icmp_eq, o_icmp_ne, o_icmp_lt, o_icmp_ge, o_icmp_gt, o_icmp_le, o_nonnull, o_lsw2, o_iret, o_zret, o_vret, o_cV0, o_cV1, o_cV2, o_cV3, o_cV4, o_cV5, o_cV6, o_cS1, o_cS2, o_cS3, o_cS4, lg, lset, inB, pushv, c1, okr, at_, List.replicate, true_and, and_true, true_or, or_true, eq_self, forall_const, not_true_eq_false, not_false_eq_true, forall_eq, false_implies, true_implies,  List.length_nil, List.length_cons, Nat.zero_le, Nat.reduceAdd, Nat.reduceLeDiff]
      exact h _ (fun a ha => by rw [fz_o (by omega), wr_o (by omega)]) (hI.newV (VOk_due hV (by omega) hu) ((due_at (by omega) hs).fr (fun a _ _ => fz_o (by omega))) (fun a h1 h2 => by rw [fz_o h2, wr_o (by omega)]) (fun m hm => fz_z hm))
    · simp only [ia1, ia2, ia3, ia4, inn, inm, i10, i01, i0n, i1n, i0m, i1m, o_push, o_iload, o_aload, o_istore, o_iinc, o_iadd, o_isub, o_imul, o_iand, o_ior, o_ixor, o_ishl, o_ishr, o_iushr, o_idiv, o_irem, o_ineg, o_dup, o_dup2, o_pop, o_if_eq, o_if_ne, o_if_lt, o_if_ge, o_if_gt, o_if_le, o_icmp_eq, o_icmp_ne, o_icmp_lt, o_icmp_ge, o_icmp_gt, o_icmp_le, o_nonnull, o_lsw2, o_iret, o_zret, o_vret, o_cV0, o_cV1, o_cV2, o_cV3, o_cV4, o_cV5, o_cV6, o_cS1, o_cS2, o_cS3, o_cS4, lg, lset, inB, pushv, c1, okr, at_, List.replicate, true_and, and_true, true_or, or_true, eq_self, forall_const, not_true_eq_false, not_false_eq_true, forall_eq, false_implies, true_implies,  List.length_nil, List.length_cons, Nat.zero_le, Nat.reduceAdd, Nat.reduceLeDiff]
      have e : opDue A j u = (-2, A) := by rw [opDue, if_neg (fun z => z q), if_pos q2]
      rw [e] at h
      exact h σ (fun _ _ => rfl) hI
  · rw [hs.n] at q
    simp only [ia1, ia2, ia3, ia4, inn, inm, i10, i01, i0n, i1n, i0m, i1m, o_push, o_iload, o_aload, o_istore, o_iinc, o_iadd, o_isub, o_imul, o_iand, o_ior, o_ixor, o_ishl, o_ishr, o_iushr, o_idiv, o_irem, o_ineg, o_dup, o_dup2, o_pop, o_if_eq, o_if_ne, o_if_lt, o_if_ge, o_if_gt, o_if_le, o_icmp_eq, o_icmp_ne, o_icmp_lt, o_icmp_ge, o_icmp_gt, o_icmp_le, o_nonnull, o_lsw2, o_iret, o_zret, o_vret, o_cV0, o_cV1, o_cV2, o_cV3, o_cV4, o_cV5, o_cV6, o_cS1, o_cS2, o_cS3, o_cS4, lg, lset, inB, pushv, c1, okr, at_, List.replicate, true_and, and_true, true_or, or_true, eq_self, forall_const, not_true_eq_false, not_false_eq_true, forall_eq, false_implies, true_implies,  List.length_nil, List.length_cons, Nat.zero_le, Nat.reduceAdd, Nat.reduceLeDiff]
    have e : opDue A j u = (-1, A) := by rw [opDue, if_pos q]
    rw [e] at h
    exact h σ (fun _ _ => rfl) hI
end PUBC
