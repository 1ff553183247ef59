/-! the shop's other methods -/
def cp (σ : Mem) (a a0 k : Nat) : Mem := va_up σ a (va_cpy (σ a0) (σ a) 0 0 k)
section CPY
variable {K : Kt} {ls : Lc} {r : List Value} {σ : Mem} {a a0 b i j n n0 k : Nat}
theorem acI (ha : sh a = shI n) (h0 : sh a0 = shI n0) (hk : k ≤ n) (hk0 : k ≤ n0) (hn : k < 2 ^ 31) : o_acopy K ls (.int (nI k) :: .int (nI 0) :: .ref a :: .int (nI 0) :: .ref a0 :: r) σ = (okr r 8 ∧ K ls r (cp σ a a0 k)) := by
  unfold o_acopy
  simp only [ha, h0, nI_clamp hn, nI_clamp (show 0 < 2 ^ 31 by omega)]
  exact propext ⟨fun h => h.2.2.2.2.2.2.2, fun h => ⟨rfl, rfl, nI_pos (by omega), nI_pos (by omega), nI_pos hn, by simpa [shI] using hk0, by simpa [shI] using hk, h⟩⟩
theorem cp_o (h : b ≠ a) : cp σ a a0 k b = σ b := by unfold cp va_up; simp [h]
theorem cp_s (h : i < k) : cp σ a a0 k a i = σ a0 i := by unfold cp va_up va_cpy; simp [h]
theorem cp_n (h : k ≤ i) : cp σ a a0 k a i = σ a i := by
  have h2 : ¬ i < k := by omega
  unfold cp va_up va_cpy; simp [h2]
end CPY
def volS (V : Nat → Nat) (S : Nat) : Nat := sumS (fun j => V (17 + j)) S (V 9)
def fdv (x v : Int32) : Int32 := if 0 ≤ x ^^^ v then x / v else if x / v * v = x then x / v else x / v - 1
def dwn (x v : Int32) : Int32 := if x < 0 ∧ ¬ x / v * v = x then x / v - 1 else x / v
theorem fdv_z : ∀ z, z < 120 → ∀ v, v < 10 → 0 < v → fdv (nI z - nI 20) (nI v) = nI ((z + 100 * v - 20) / v) - nI 100 := by decide +kernel
theorem dwn_z : ∀ z, z < 120 → ∀ v, v < 10 → 0 < v → dwn (nI z - nI 20) (nI v) = nI ((z + 100 * v - 20) / v) - nI 100 := by decide +kernel
theorem sub_z {a c : Nat} (ha : a < 100) (hc : c ≤ 20) : nI a - nI c = nI (a + 20 - c) - nI 20 := by
  apply Int32.toInt_inj.mp
  rw [pk_sub_toInt (by omega) (by omega), pk_sub_toInt (by omega) (by omega)]
  omega
/-- TIGHT, as the machine has it -/
def tv (V : Nat → Nat) (j : Nat) : Int32 := nI (tN V j) - nI 100
theorem tv_fdv {V : Nat → Nat} (h : VOk V) {j : Nat} (hj : j < 7) : fdv (nI (V (24 + j)) - nI (ck V (V (10 + j)))) (nI (max 1 (V (17 + j)))) = tv V j := by
  have h1 := h.2.2.2.2.2.1 j hj
  have h2 := ck_le h (V (10 + j))
  rw [sub_z (by omega) h2, fdv_z _ (by omega) _ (by omega) (by omega), tv, tN]
  congr 3
  omega
theorem tv_dwn {V : Nat → Nat} (h : VOk V) {j : Nat} (hj : j < 7) (hv : 1 ≤ V (17 + j)) : dwn (nI (V (24 + j)) - nI (ck V (V (10 + j)))) (nI (V (17 + j))) = tv V j := by
  have h1 := h.2.2.2.2.2.1 j hj
  have h2 := ck_le h (V (10 + j))
  rw [sub_z (by omega) h2, dwn_z _ (by omega) _ (by omega) (by omega), tv, tN, Nat.max_eq_right hv]
  congr 3
  omega
theorem tN_le {V : Nat → Nat} (h : VOk V) {j : Nat} (hj : j < 7) : tN V j ≤ 199 := by
  have h1 := h.2.2.2.2.2.1 j hj
  unfold tN
  have h3 : 0 < max 1 (V (17 + j)) := by omega
  apply Nat.le_of_lt_succ
  rw [Nat.div_lt_iff_lt_mul h3]
  have h4 : 1 ≤ max 1 (V (17 + j)) := by omega
  generalize max 1 (V (17 + j)) = w at h3 h4
  omega
theorem tv_lt {V : Nat → Nat} (h : VOk V) {i j : Nat} (hi : i < 7) (hj : j < 7) : (tv V i < tv V j) = (tN V i < tN V j) := by
  have h1 := tN_le h hi
  have h2 := tN_le h hj
  unfold tv
  rw [Int32.lt_iff_toInt_lt, pk_sub_toInt (by omega) (by omega), pk_sub_toInt (by omega) (by omega)]
  apply propext
  omega
theorem tv_le {V : Nat → Nat} (h : VOk V) {i j : Nat} (hi : i < 7) (hj : j < 7) : (tv V i ≤ tv V j) = (tN V i ≤ tN V j) := by
  have h1 := tN_le h hi
  have h2 := tN_le h hj
  unfold tv
  rw [Int32.le_iff_toInt_le, pk_sub_toInt (by omega) (by omega), pk_sub_toInt (by omega) (by omega)]
  apply propext
  omega
theorem tv_max {V : Nat → Nat} (h : VOk V) {j : Nat} (hj : j < 7) : ¬ (1000000 : Int32) ≤ tv V j := by
  have h1 := tN_le h hj
  unfold tv
  rw [Int32.le_iff_toInt_le, pk_sub_toInt (by omega) (by omega)]
  have : (1000000 : Int32).toInt = 1000000 := by decide
  omega
def fuR (V : Nat → Nat) : Nat → Nat
  | 0 => 0
  | f + 1 => fuR V f + if memR V f (V 9) = 0 then 0 else 1
theorem memR_lt (V : Nat → Nat) (f : Nat) : ∀ n, memR V f n < 2 ^ n
  | 0 => by simp [memR]
  | n + 1 => by
    have h := memR_lt V f n
    have h2 : 2 ^ n < 2 ^ (n + 1) := by rw [Nat.pow_succ]; omega
    unfold memR
    split
    · exact Nat.or_lt_two_pow (by omega) h2
    · omega
def tkV (V : Nat → Nat) (f v u : Nat) : Nat → Nat := upN (upN (upN (upN V (10 + V 9) f) (17 + V 9) v) (24 + V 9) u) 9 (V 9 + 1)
def rmV (V : Nat → Nat) (j : Nat) : Nat → Nat := fun k => if k = 9 then V 9 - 1 else if 10 ≤ k ∧ k < 31 ∧ j ≤ (k - 10) % 7 ∧ (k - 10) % 7 + 1 < V 9 then V (k + 1) else V k
section SHOPC
variable {G : Gp} {d : Nat} {Q : Option Value → Mem → Prop} {σ : Mem} {b p k : Nat} {V B : Nat → Nat}
theorem sp_floorDiv {x v : Int32} (hv : ¬ v = 0) (h : Q (some (.int (fdv x v))) σ) : E G MJ9_floorDiv_7cf53 d 0 [some (.int x), some (.int v), none] [] σ Q := by
  apply kJ9_floorDiv_7cf53_0
  simp only [ia1, ia2, ia3, ia4, inn, inm, i10, i01, i0n, i1n, i0m, i1m, o_push, o_iload, o_aload, o_istore, o_iinc, o_iadd, o_isub, o_imul, o_iand, o_ior, o_ixor, o_ishl, o_ishr, o_iushr, o_idiv, o_irem, o_ineg, o_dup, o_dup2, o_pop, o_if_eq, o_if_ne, o_if_lt, o_if_ge, o_if_gt, o_if_le, o_icmp_eq, o_icmp_ne, o_icmp_lt, o_icmp_ge, o_icmp_gt, o_icmp_le, o_nonnull, o_lsw2, o_iret, o_zret, o_vret, o_cV0, o_cV1, o_cV2, o_cV3, o_cV4, o_cV5, o_cV6, o_cS1, o_cS2, o_cS3, o_cS4, lg, lset, inB, pushv, c1, okr, at_, List.replicate, true_and, and_true, true_or, or_true, eq_self, forall_const, not_true_eq_false, not_false_eq_true, forall_eq, false_implies, true_implies,  List.length_nil, List.length_cons, Nat.zero_le, Nat.reduceAdd, Nat.reduceLeDiff]
  refine ⟨hv, fun q => ?_, fun q => ⟨fun q2 => ?_, fun q2 => ?_⟩⟩
  · rw [fdv, if_pos q] at h; exact h
  · rw [fdv, if_neg q, if_pos q2] at h; exact h
  · rw [fdv, if_neg q, if_neg q2] at h; exact h
theorem sp_tight {j : Nat} (hj : j < 7) (hb : IsSh b) (hV : VOk V) (hs : ShAt σ b V) (h : Q (some (.int (tv V j))) σ) : E G MX3_tight (d + 1) 0 [some (.ref b), some (.int (nI j)), none] [] σ Q := by
  have h1 := hV.2.2.2.2.2.1 j hj
  apply kX3_tight_0
  simp (disch := omega) only [ia1, ia2, ia3, ia4, inn, inm, i10, i01, i0n, i1n, i0m, i1m, o_push, o_iload, o_aload, o_istore, o_iinc, o_iadd, o_isub, o_imul, o_iand, o_ior, o_ixor, o_ishl, o_ishr, o_iushr, o_idiv, o_irem, o_ineg, o_dup, o_dup2, o_pop, o_if_eq, o_if_ne, o_if_lt, o_if_ge, o_if_gt, o_if_le, o_icmp_eq, o_icmp_ne, o_icmp_lt, o_icmp_ge, o_icmp_gt, o_icmp_le, o_nonnull, o_lsw2, o_iret, o_zret, o_vret, o_cV0, o_cV1, o_cV2, o_cV3, o_cV4, o_cV5, o_cV6, o_cS1, o_cS2, o_cS3, o_cS4, lg, lset, inB, pushv, c1, okr, at_, List.replicate, true_and, and_true, true_or, or_true, eq_self, forall_const, not_true_eq_false, not_false_eq_true, forall_eq, false_implies, true_implies,  List.length_nil, List.length_cons, Nat.zero_le, Nat.reduceAdd, Nat.reduceLeDiff, gS7 hb, ld7 hb.2.2.2.2.1, hs.v, n1]
  refine sp_max (by omega) (by omega) ?_
  simp (disch := omega) only [ia1, ia2, ia3, ia4, inn, inm, i10, i01, i0n, i1n, i0m, i1m, o_push, o_iload, o_aload, o_istore, o_iinc, o_iadd, o_isub, o_imul, o_iand, o_ior, o_ixor, o_ishl, o_ishr, o_iushr, o_idiv, o_irem, o_ineg, o_dup, o_dup2, o_pop, o_if_eq, o_if_ne, o_if_lt, o_if_ge, o_if_gt, o_if_le, o_icmp_eq, o_icmp_ne, o_icmp_lt, o_icmp_ge, o_icmp_gt, o_icmp_le, o_nonnull, o_lsw2, o_iret, o_zret, o_vret, o_cV0, o_cV1, o_cV2, o_cV3, o_cV4, o_cV5, o_cV6, o_cS1, o_cS2, o_cS3, o_cS4, lg, lset, inB, pushv, c1, okr, at_, List.replicate, true_and, and_true, true_or, or_true, eq_self, forall_const, not_true_eq_false, not_false_eq_true, forall_eq, false_implies, true_implies,  List.length_nil, List.length_cons, Nat.zero_le, Nat.reduceAdd, Nat.reduceLeDiff, gS8 hb, gS1 hb, gS6 hb, ld7 hb.2.2.2.2.2, ld7 hb.2.2.2.1, hs.d, hs.f, ld4 hb.2.2.1, hs.c]
  refine sp_floorDiv (nI_ne0 (by omega) (by omega)) ?_
  simp only [ia1, ia2, ia3, ia4, inn, inm, i10, i01, i0n, i1n, i0m, i1m, o_push, o_iload, o_aload, o_istore, o_iinc, o_iadd, o_isub, o_imul, o_iand, o_ior, o_ixor, o_ishl, o_ishr, o_iushr, o_idiv, o_irem, o_ineg, o_dup, o_dup2, o_pop, o_if_eq, o_if_ne, o_if_lt, o_if_ge, o_if_gt, o_if_le, o_icmp_eq, o_icmp_ne, o_icmp_lt, o_icmp_ge, o_icmp_gt, o_icmp_le, o_nonnull, o_lsw2, o_iret, o_zret, o_vret, o_cV0, o_cV1, o_cV2, o_cV3, o_cV4, o_cV5, o_cV6, o_cS1, o_cS2, o_cS3, o_cS4, lg, lset, inB, pushv, c1, okr, at_, List.replicate, true_and, and_true, true_or, or_true, eq_self, forall_const, not_true_eq_false, not_false_eq_true, forall_eq, false_implies, true_implies,  List.length_nil, List.length_cons, Nat.zero_le, Nat.reduceAdd, Nat.reduceLeDiff]
  rw [tv_fdv hV hj]
  exact h
theorem sp_everyJob (hb : IsSh b) (hV : VOk V) (hs : ShAt σ b V) (h : Q (some (.int (nI (2 ^ V 9 - 1)))) σ) : E G MX3_everyJob d 0 [some (.ref b)] [] σ Q := by
  have hn := hV.2.2.2.2.1
  have h2 : 1 ≤ 2 ^ V 9 := Nat.one_le_two_pow
  apply kX3_everyJob_0
  simp (disch := omega) only [ia1, ia2, ia3, ia4, inn, inm, i10, i01, i0n, i1n, i0m, i1m, o_push, o_iload, o_aload, o_istore, o_iinc, o_iadd, o_isub, o_imul, o_iand, o_ior, o_ixor, o_ishl, o_ishr, o_iushr, o_idiv, o_irem, o_ineg, o_dup, o_dup2, o_pop, o_if_eq, o_if_ne, o_if_lt, o_if_ge, o_if_gt, o_if_le, o_icmp_eq, o_icmp_ne, o_icmp_lt, o_icmp_ge, o_icmp_gt, o_icmp_le, o_nonnull, o_lsw2, o_iret, o_zret, o_vret, o_cV0, o_cV1, o_cV2, o_cV3, o_cV4, o_cV5, o_cV6, o_cS1, o_cS2, o_cS3, o_cS4, lg, lset, inB, pushv, c1, okr, at_, List.replicate, true_and, and_true, true_or, or_true, eq_self, forall_const, not_true_eq_false, not_false_eq_true, forall_eq, false_implies, true_implies,  List.length_nil, List.length_cons, Nat.zero_le, Nat.reduceAdd, Nat.reduceLeDiff, gS5 hb, hs.n, n1, shl1, nSub]
  exact h
theorem p7 {n : Nat} (h : n ≤ 7) : 2 ^ n ≤ 128 := Nat.pow_le_pow_right (by omega) h
theorem sp_membersOf {f : Nat} (hf : f < 3) (hb : IsSh b) (hV : VOk V) (hs : ShAt σ b V) (h : Q (some (.int (nI (memR V f (V 9))))) σ) : E G MX3_membersOf d 0 [some (.ref b), some (.int (nI f)), none, none] [] σ Q := by
  have hn := hV.2.2.2.2.1
  apply kX3_membersOf_0
  simp only [ia1, ia2, ia3, ia4, inn, inm, i10, i01, i0n, i1n, i0m, i1m, o_push, o_iload, o_aload, o_istore, o_iinc, o_iadd, o_isub, o_imul, o_iand, o_ior, o_ixor, o_ishl, o_ishr, o_iushr, o_idiv, o_irem, o_ineg, o_dup, o_dup2, o_pop, o_if_eq, o_if_ne, o_if_lt, o_if_ge, o_if_gt, o_if_le, o_icmp_eq, o_icmp_ne, o_icmp_lt, o_icmp_ge, o_icmp_gt, o_icmp_le, o_nonnull, o_lsw2, o_iret, o_zret, o_vret, o_cV0, o_cV1, o_cV2, o_cV3, o_cV4, o_cV5, o_cV6, o_cS1, o_cS2, o_cS3, o_cS4, lg, lset, inB, pushv, c1, okr, at_, List.replicate, true_and, and_true, true_or, or_true, eq_self, forall_const, not_true_eq_false, not_false_eq_true, forall_eq, false_implies, true_implies,  List.length_nil, List.length_cons, Nat.zero_le, Nat.reduceAdd, Nat.reduceLeDiff, n0]
  suffices H : ∀ k j, k + j = V 9 → E G MX3_membersOf d 4 [some (.ref b), some (.int (nI f)), some (.int (nI (memR V f j))), some (.int (nI j))] [] σ Q from H (V 9) 0 (by omega)
  intro k
  induction k with
  | zero =>
    intro j hjn
    obtain rfl : j = V 9 := by omega
    apply kX3_membersOf_4
    simp (disch := omega) only [ia1, ia2, ia3, ia4, inn, inm, i10, i01, i0n, i1n, i0m, i1m, o_push, o_iload, o_aload, o_istore, o_iinc, o_iadd, o_isub, o_imul, o_iand, o_ior, o_ixor, o_ishl, o_ishr, o_iushr, o_idiv, o_irem, o_ineg, o_dup, o_dup2, o_pop, o_if_eq, o_if_ne, o_if_lt, o_if_ge, o_if_gt, o_if_le, o_icmp_eq, o_icmp_ne, o_icmp_lt, o_icmp_ge, o_icmp_gt, o_icmp_le, o_nonnull, o_lsw2, o_iret, o_zret, o_vret, o_cV0, o_cV1, o_cV2, o_cV3, o_cV4, o_cV5, o_cV6, o_cS1, o_cS2, o_cS3, o_cS4, lg, lset, inB, pushv, c1, okr, at_, List.replicate, true_and, and_true, true_or, or_true, eq_self, forall_const, not_true_eq_false, not_false_eq_true, forall_eq, false_implies, true_implies,  List.length_nil, List.length_cons, Nat.zero_le, Nat.reduceAdd, Nat.reduceLeDiff, gS5 hb, hs.n, nLe]
    exact ⟨fun _ => h, fun q => absurd (Nat.le_refl _) q⟩
  | succ k ih =>
    intro j hjn
    have h1 := hV.2.2.2.2.2.1 j (by omega)
    have nx := ih (j + 1) (by omega)
    apply kX3_membersOf_4
    simp (disch := omega) only [ia1, ia2, ia3, ia4, inn, inm, i10, i01, i0n, i1n, i0m, i1m, o_push, o_iload, o_aload, o_istore, o_iinc, o_iadd, o_isub, o_imul, o_iand, o_ior, o_ixor, o_ishl, o_ishr, o_iushr, o_idiv, o_irem, o_ineg, o_dup, o_dup2, o_pop, o_if_eq, o_if_ne, o_if_lt, o_if_ge, o_if_gt, o_if_le, o_icmp_eq, o_icmp_ne, o_icmp_lt, o_icmp_ge, o_icmp_gt, o_icmp_le, o_nonnull, o_lsw2, o_iret, o_zret, o_vret, o_cV0, o_cV1, o_cV2, o_cV3, o_cV4, o_cV5, o_cV6, o_cS1, o_cS2, o_cS3, o_cS4, lg, lset, inB, pushv, c1, okr, at_, List.replicate, true_and, and_true, true_or, or_true, eq_self, forall_const, not_true_eq_false, not_false_eq_true, forall_eq, false_implies, true_implies,  List.length_nil, List.length_cons, Nat.zero_le, Nat.reduceAdd, Nat.reduceLeDiff, gS5 hb, gS6 hb, hs.n, ld7 hb.2.2.2.1, hs.f, nLe, nEq, n1, nI_add, shl1, fa_or]
    refine ⟨fun q => absurd q (by omega), fun _ => ⟨fun q => ?_, fun q => ?_⟩⟩
    · rw [memR, if_neg q] at nx; exact nx
    · rw [memR, if_pos q] at nx; exact nx
theorem sp_familiesUsed (hb : IsSh b) (hV : VOk V) (hs : ShAt σ b V) (h : Q (some (.int (nI (fuR V 3)))) σ) : E G MX3_familiesUsed (d + 1) 0 [some (.ref b), none, none] [] σ Q := by
  have hn := hV.2.2.2.2.1
  apply kX3_familiesUsed_0
  simp only [ia1, ia2, ia3, ia4, inn, inm, i10, i01, i0n, i1n, i0m, i1m, o_push, o_iload, o_aload, o_istore, o_iinc, o_iadd, o_isub, o_imul, o_iand, o_ior, o_ixor, o_ishl, o_ishr, o_iushr, o_idiv, o_irem, o_ineg, o_dup, o_dup2, o_pop, o_if_eq, o_if_ne, o_if_lt, o_if_ge, o_if_gt, o_if_le, o_icmp_eq, o_icmp_ne, o_icmp_lt, o_icmp_ge, o_icmp_gt, o_icmp_le, o_nonnull, o_lsw2, o_iret, o_zret, o_vret, o_cV0, o_cV1, o_cV2, o_cV3, o_cV4, o_cV5, o_cV6, o_cS1, o_cS2, o_cS3, o_cS4, lg, lset, inB, pushv, c1, okr, at_, List.replicate, true_and, and_true, true_or, or_true, eq_self, forall_const, not_true_eq_false, not_false_eq_true, forall_eq, false_implies, true_implies,  List.length_nil, List.length_cons, Nat.zero_le, Nat.reduceAdd, Nat.reduceLeDiff, n0]
  suffices H : ∀ k j, k + j = 3 → E G MX3_familiesUsed (d + 1) 4 [some (.ref b), some (.int (nI (fuR V j))), some (.int (nI j))] [] σ Q from H 3 0 (by omega)
  intro k
  induction k with
  | zero =>
    intro j hjn
    obtain rfl : j = 3 := by omega
    apply kX3_familiesUsed_4
    simp (disch := omega) only [ia1, ia2, ia3, ia4, inn, inm, i10, i01, i0n, i1n, i0m, i1m, o_push, o_iload, o_aload, o_istore, o_iinc, o_iadd, o_isub, o_imul, o_iand, o_ior, o_ixor, o_ishl, o_ishr, o_iushr, o_idiv, o_irem, o_ineg, o_dup, o_dup2, o_pop, o_if_eq, o_if_ne, o_if_lt, o_if_ge, o_if_gt, o_if_le, o_icmp_eq, o_icmp_ne, o_icmp_lt, o_icmp_ge, o_icmp_gt, o_icmp_le, o_nonnull, o_lsw2, o_iret, o_zret, o_vret, o_cV0, o_cV1, o_cV2, o_cV3, o_cV4, o_cV5, o_cV6, o_cS1, o_cS2, o_cS3, o_cS4, lg, lset, inB, pushv, c1, okr, at_, List.replicate, true_and, and_true, true_or, or_true, eq_self, forall_const, not_true_eq_false, not_false_eq_true, forall_eq, false_implies, true_implies,  List.length_nil, List.length_cons, Nat.zero_le, Nat.reduceAdd, Nat.reduceLeDiff, n3, nLe, Nat.le_refl]
    exact h
  | succ k ih =>
    intro j hjn
    have nx := ih (j + 1) (by omega)
    apply kX3_familiesUsed_4
    simp (disch := omega) only [ia1, ia2, ia3, ia4, inn, inm, i10, i01, i0n, i1n, i0m, i1m, o_push, o_iload, o_aload, o_istore, o_iinc, o_iadd, o_isub, o_imul, o_iand, o_ior, o_ixor, o_ishl, o_ishr, o_iushr, o_idiv, o_irem, o_ineg, o_dup, o_dup2, o_pop, o_if_eq, o_if_ne, o_if_lt, o_if_ge, o_if_gt, o_if_le, o_icmp_eq, o_icmp_ne, o_icmp_lt, o_icmp_ge, o_icmp_gt, o_icmp_le, o_nonnull, o_lsw2, o_iret, o_zret, o_vret, o_cV0, o_cV1, o_cV2, o_cV3, o_cV4, o_cV5, o_cV6, o_cS1, o_cS2, o_cS3, o_cS4, lg, lset, inB, pushv, c1, okr, at_, List.replicate, true_and, and_true, true_or, or_true, eq_self, forall_const, not_true_eq_false, not_false_eq_true, forall_eq, false_implies, true_implies,  List.length_nil, List.length_cons, Nat.zero_le, Nat.reduceAdd, Nat.reduceLeDiff, n3, nLe, hb.k]
    refine ⟨fun q => absurd q (by omega), fun _ => sp_membersOf (by omega) hb hV hs ?_⟩
    have h1 := memR_lt V j (V 9)
    have h2 := p7 hn
    simp (disch := omega) only [ia1, ia2, ia3, ia4, inn, inm, i10, i01, i0n, i1n, i0m, i1m, o_push, o_iload, o_aload, o_istore, o_iinc, o_iadd, o_isub, o_imul, o_iand, o_ior, o_ixor, o_ishl, o_ishr, o_iushr, o_idiv, o_irem, o_ineg, o_dup, o_dup2, o_pop, o_if_eq, o_if_ne, o_if_lt, o_if_ge, o_if_gt, o_if_le, o_icmp_eq, o_icmp_ne, o_icmp_lt, o_icmp_ge, o_icmp_gt, o_icmp_le, o_nonnull, o_lsw2, o_iret, o_zret, o_vret, o_cV0, o_cV1, o_cV2, o_cV3, o_cV4, o_cV5, o_cV6, o_cS1, o_cS2, o_cS3, o_cS4, lg, lset, inB, pushv, c1, okr, at_, List.replicate, true_and, and_true, true_or, or_true, eq_self, forall_const, not_true_eq_false, not_false_eq_true, forall_eq, false_implies, true_implies,  List.length_nil, List.length_cons, Nat.zero_le, Nat.reduceAdd, Nat.reduceLeDiff, n0, nEq, n1, nI_add]
    refine ⟨fun q => ?_, fun q => ?_⟩
    · rw [fuR, if_pos q] at nx; exact nx
    · rw [fuR, if_neg q] at nx; exact nx
theorem sp_allVolumes (hb : IsSh b) (hV : VOk V) (hs : ShAt σ b V) (h : Q (some (.int (nI (volS V (2 ^ V 9 - 1))))) σ) : E G MX3_allVolumes (d + 2) 0 [some (.ref b)] [] σ Q := by
  have hn := p7 hV.2.2.2.2.1
  apply kX3_allVolumes_0
  simp only [ia1, ia2, ia3, ia4, inn, inm, i10, i01, i0n, i1n, i0m, i1m, o_push, o_iload, o_aload, o_istore, o_iinc, o_iadd, o_isub, o_imul, o_iand, o_ior, o_ixor, o_ishl, o_ishr, o_iushr, o_idiv, o_irem, o_ineg, o_dup, o_dup2, o_pop, o_if_eq, o_if_ne, o_if_lt, o_if_ge, o_if_gt, o_if_le, o_icmp_eq, o_icmp_ne, o_icmp_lt, o_icmp_ge, o_icmp_gt, o_icmp_le, o_nonnull, o_lsw2, o_iret, o_zret, o_vret, o_cV0, o_cV1, o_cV2, o_cV3, o_cV4, o_cV5, o_cV6, o_cS1, o_cS2, o_cS3, o_cS4, lg, lset, inB, pushv, c1, okr, at_, List.replicate, true_and, and_true, true_or, or_true, eq_self, forall_const, not_true_eq_false, not_false_eq_true, forall_eq, false_implies, true_implies,  List.length_nil, List.length_cons, Nat.zero_le, Nat.reduceAdd, Nat.reduceLeDiff, hb.k]
  refine sp_everyJob hb hV hs ?_
  simp only [ia1, ia2, ia3, ia4, inn, inm, i10, i01, i0n, i1n, i0m, i1m, o_push, o_iload, o_aload, o_istore, o_iinc, o_iadd, o_isub, o_imul, o_iand, o_ior, o_ixor, o_ishl, o_ishr, o_iushr, o_idiv, o_irem, o_ineg, o_dup, o_dup2, o_pop, o_if_eq, o_if_ne, o_if_lt, o_if_ge, o_if_gt, o_if_le, o_icmp_eq, o_icmp_ne, o_icmp_lt, o_icmp_ge, o_icmp_gt, o_icmp_le, o_nonnull, o_lsw2, o_iret, o_zret, o_vret, o_cV0, o_cV1, o_cV2, o_cV3, o_cV4, o_cV5, o_cV6, o_cS1, o_cS2, o_cS3, o_cS4, lg, lset, inB, pushv, c1, okr, at_, List.replicate, true_and, and_true, true_or, or_true, eq_self, forall_const, not_true_eq_false, not_false_eq_true, forall_eq, false_implies, true_implies,  List.length_nil, List.length_cons, Nat.zero_le, Nat.reduceAdd, Nat.reduceLeDiff, hb.k]
  refine sp_volumeOfSet hb (by omega) hV hs ?_
  simp only [ia1, ia2, ia3, ia4, inn, inm, i10, i01, i0n, i1n, i0m, i1m, o_push, o_iload, o_aload, o_istore, o_iinc, o_iadd, o_isub, o_imul, o_iand, o_ior, o_ixor, o_ishl, o_ishr, o_iushr, o_idiv, o_irem, o_ineg, o_dup, o_dup2, o_pop, o_if_eq, o_if_ne, o_if_lt, o_if_ge, o_if_gt, o_if_le, o_icmp_eq, o_icmp_ne, o_icmp_lt, o_icmp_ge, o_icmp_gt, o_icmp_le, o_nonnull, o_lsw2, o_iret, o_zret, o_vret, o_cV0, o_cV1, o_cV2, o_cV3, o_cV4, o_cV5, o_cV6, o_cS1, o_cS2, o_cS3, o_cS4, lg, lset, inB, pushv, c1, okr, at_, List.replicate, true_and, and_true, true_or, or_true, eq_self, forall_const, not_true_eq_false, not_false_eq_true, forall_eq, false_implies, true_implies,  List.length_nil, List.length_cons, Nat.zero_le, Nat.reduceAdd, Nat.reduceLeDiff]
  exact h
theorem volS_le {V : Nat → Nat} (h : VOk V) (S : Nat) : volS V S ≤ 63 := by
  have h1 := h.2.2.2.2.1
  have := sumS_le (f := fun j => V (17 + j)) (c := 9) S (V 9) (fun j hj => (h.2.2.2.2.2.1 j (by omega)).2.1)
  unfold volS; omega
theorem sp_fits {j S : Nat} (hj : j < 7) (hS : S < 128) (hb : IsSh b) (hV : VOk V) (hs : ShAt σ b V) (ht : V (10 + j) = famS V S ∧ volS V S + V (17 + j) ≤ V 6 → Q (some (.int 1)) σ) (hf : ¬ (V (10 + j) = famS V S ∧ volS V S + V (17 + j) ≤ V 6) → Q (some (.int 0)) σ) :
    E G MX3_fits (d + 2) 0 [some (.ref b), some (.int (nI j)), some (.int (nI S))] [] σ Q := by
  have h1 := hV.2.2.2.2.2.1 j hj
  have h2 := volS_le hV S
  have h3 := famS_le hV S
  have h4 := hV.2.1
  apply kX3_fits_0
  simp (disch := omega) only [ia1, ia2, ia3, ia4, inn, inm, i10, i01, i0n, i1n, i0m, i1m, o_push, o_iload, o_aload, o_istore, o_iinc, o_iadd, o_isub, o_imul, o_iand, o_ior, o_ixor, o_ishl, o_ishr, o_iushr, o_idiv, o_irem, o_ineg, o_dup, o_dup2, o_pop, o_if_eq, o_if_ne, o_if_lt, o_if_ge, o_if_gt, o_if_le, o_icmp_eq, o_icmp_ne, o_icmp_lt, o_icmp_ge, o_icmp_gt, o_icmp_le, o_nonnull, o_lsw2, o_iret, o_zret, o_vret, o_cV0, o_cV1, o_cV2, o_cV3, o_cV4, o_cV5, o_cV6, o_cS1, o_cS2, o_cS3, o_cS4, lg, lset, inB, pushv, c1, okr, at_, List.replicate, true_and, and_true, true_or, or_true, eq_self, forall_const, not_true_eq_false, not_false_eq_true, forall_eq, false_implies, true_implies,  List.length_nil, List.length_cons, Nat.zero_le, Nat.reduceAdd, Nat.reduceLeDiff, gS6 hb, ld7 hb.2.2.2.1, hs.f, hb.k]
  refine sp_familyOfSet hb (by omega) hV hs ?_
  rw [show famR V S (V 9) = famS V S from rfl]
  simp (disch := omega) only [ia1, ia2, ia3, ia4, inn, inm, i10, i01, i0n, i1n, i0m, i1m, o_push, o_iload, o_aload, o_istore, o_iinc, o_iadd, o_isub, o_imul, o_iand, o_ior, o_ixor, o_ishl, o_ishr, o_iushr, o_idiv, o_irem, o_ineg, o_dup, o_dup2, o_pop, o_if_eq, o_if_ne, o_if_lt, o_if_ge, o_if_gt, o_if_le, o_icmp_eq, o_icmp_ne, o_icmp_lt, o_icmp_ge, o_icmp_gt, o_icmp_le, o_nonnull, o_lsw2, o_iret, o_zret, o_vret, o_cV0, o_cV1, o_cV2, o_cV3, o_cV4, o_cV5, o_cV6, o_cS1, o_cS2, o_cS3, o_cS4, lg, lset, inB, pushv, c1, okr, at_, List.replicate, true_and, and_true, true_or, or_true, eq_self, forall_const, not_true_eq_false, not_false_eq_true, forall_eq, false_implies, true_implies,  List.length_nil, List.length_cons, Nat.zero_le, Nat.reduceAdd, Nat.reduceLeDiff, nEq, hb.k]
  refine ⟨fun q => hf (fun z => q z.1), fun q => sp_volumeOfSet hb (by omega) hV hs ?_⟩
  rw [show sumS (fun j => V (17 + j)) S (V 9) = volS V S from rfl]
  simp (disch := omega) only [ia1, ia2, ia3, ia4, inn, inm, i10, i01, i0n, i1n, i0m, i1m, o_push, o_iload, o_aload, o_istore, o_iinc, o_iadd, o_isub, o_imul, o_iand, o_ior, o_ixor, o_ishl, o_ishr, o_iushr, o_idiv, o_irem, o_ineg, o_dup, o_dup2, o_pop, o_if_eq, o_if_ne, o_if_lt, o_if_ge, o_if_gt, o_if_le, o_icmp_eq, o_icmp_ne, o_icmp_lt, o_icmp_ge, o_icmp_gt, o_icmp_le, o_nonnull, o_lsw2, o_iret, o_zret, o_vret, o_cV0, o_cV1, o_cV2, o_cV3, o_cV4, o_cV5, o_cV6, o_cS1, o_cS2, o_cS3, o_cS4, lg, lset, inB, pushv, c1, okr, at_, List.replicate, true_and, and_true, true_or, or_true, eq_self, forall_const, not_true_eq_false, not_false_eq_true, forall_eq, false_implies, true_implies,  List.length_nil, List.length_cons, Nat.zero_le, Nat.reduceAdd, Nat.reduceLeDiff, gS7 hb, ld7 hb.2.2.2.2.1, hs.v, gS2 hb, hs.room, nI_add, nLt]
  exact ⟨fun q2 => hf (fun z => by omega), fun q2 => ht ⟨q, by omega⟩⟩
theorem sp_take {f v u : Nat} (hf : f < 3) (hn : V 9 < 7) (hb : IsSh b) (hs : ShAt σ b V) (h : ∀ τ, (∀ a, (a < b ∨ b + 5 < a) → τ a = σ a) → ShAt τ b (tkV V f v u) → Q (some (.int (nI (V 9)))) τ) :
    E G MX3_take d 0 [some (.ref b), some (.int (nI f)), some (.int (nI v)), some (.int (nI u)), none] [] σ Q := by
  apply kX3_take_0
  simp (disch := omega) only [ia1, ia2, ia3, ia4, inn, inm, i10, i01, i0n, i1n, i0m, i1m, o_push, o_iload, o_aload, o_istore, o_iinc, o_iadd, o_isub, o_imul, o_iand, o_ior, o_ixor, o_ishl, o_ishr, o_iushr, o_idiv, o_irem, o_ineg, o_dup, o_dup2, o_pop, o_if_eq, o_if_ne, o_if_lt, o_if_ge, o_if_gt, o_if_le, o_icmp_eq, o_icmp_ne, o_icmp_lt, o_icmp_ge, o_icmp_gt, o_icmp_le, o_nonnull, o_lsw2, o_iret, o_zret, o_vret, o_cV0, o_cV1, o_cV2, o_cV3, o_cV4, o_cV5, o_cV6, o_cS1, o_cS2, o_cS3, o_cS4, lg, lset, inB, pushv, c1, okr, at_, List.replicate, true_and, and_true, true_or, or_true, eq_self, forall_const, not_true_eq_false, not_false_eq_true, forall_eq, false_implies, true_implies,  List.length_nil, List.length_cons, Nat.zero_le, Nat.reduceAdd, Nat.reduceLeDiff, gS5 hb, hs.n, gS6 hb, gS7 hb, gS8 hb, st7 hb.2.2.2.1, st7 hb.2.2.2.2.1, st7 hb.2.2.2.2.2, wr_o, n1, nI_add, pS5 hb]
  refine h _ (fun a ha => by rw [wr_o (by omega), wr_o (by omega), wr_o (by omega), wr_o (by omega)]) ⟨fun f hf => ?_, ⟨?_, ?_, ?_, ?_⟩, fun j hj => ⟨?_, ?_, ?_⟩⟩
  · rw [wr_o (by omega), wr_o (by omega), wr_o (by omega), wr_o (by omega), wr_o (by omega), wr_o (by omega), wr_o (by omega), wr_o (by omega)]
    have := hs.1 f hf
    unfold ht ck tkV upN at *
    constructor
    · rw [this.1]
      congr 1
      split
      · rw [if_neg (by omega), if_neg (by omega), if_neg (by omega), if_neg (by omega)]
      · rfl
    · rw [this.2]
      congr 1
      split
      · rw [if_neg (by omega), if_neg (by omega), if_neg (by omega), if_neg (by omega)]
      · rfl
  · rw [wr_n (by omega), wr_o (by omega), wr_o (by omega), wr_o (by omega), hs.room]
    unfold tkV upN
    rw [if_neg (by omega), if_neg (by omega), if_neg (by omega), if_neg (by omega)]
  · rw [wr_n (by omega), wr_o (by omega), wr_o (by omega), wr_o (by omega), hs.up]
    unfold tkV upN
    rw [if_neg (by omega), if_neg (by omega), if_neg (by omega), if_neg (by omega)]
  · rw [wr_n (by omega), wr_o (by omega), wr_o (by omega), wr_o (by omega), hs.down]
    unfold tkV upN
    rw [if_neg (by omega), if_neg (by omega), if_neg (by omega), if_neg (by omega)]
  · rw [wr_s]
    unfold tkV upN
    rw [if_pos rfl]
  · rw [wr_o (by omega), wr_o (by omega), wr_o (by omega)]
    unfold tkV upN
    rw [if_neg (by omega), if_neg (by omega), if_neg (by omega)]
    by_cases hjn : j = V 9
    · subst hjn
      rw [wr_s, if_pos rfl]
    · rw [wr_n (by omega), if_neg (by omega), hs.f j hj]
  · rw [wr_o (by omega), wr_o (by omega)]
    unfold tkV upN
    rw [if_neg (by omega), if_neg (by omega)]
    by_cases hjn : j = V 9
    · subst hjn
      rw [wr_s, if_pos rfl]
    · rw [wr_n (by omega), if_neg (by omega), if_neg (by omega), wr_o (by omega), hs.v j hj]
  · rw [wr_o (by omega)]
    unfold tkV upN
    rw [if_neg (by omega)]
    by_cases hjn : j = V 9
    · subst hjn
      rw [wr_s, if_pos rfl]
    · rw [wr_n (by omega), if_neg (by omega), if_neg (by omega), if_neg (by omega), wr_o (by omega), wr_o (by omega), hs.d j hj]
theorem sp_become {o : Nat} (hb : IsSh b) (ho : IsSh o) (hbo : o + 5 < b ∨ b + 5 < o) (hs : ShAt σ o V) (hc : σ (b + 1) 3 = nI 0 ∧ σ (b + 2) 3 = nI 0) (h : ∀ τ, (∀ a, (a < b ∨ b + 5 < a) → τ a = σ a) → ShAt τ b V → Q none τ) :
    E G MX3_become (d + 1) 0 [some (.ref b), some (.ref o)] [] σ Q := by
  apply kX3_become_0
  simp (disch := omega) only [ia1, ia2, ia3, ia4, inn, inm, i10, i01, i0n, i1n, i0m, i1m, o_push, o_iload, o_aload, o_istore, o_iinc, o_iadd, o_isub, o_imul, o_iand, o_ior, o_ixor, o_ishl, o_ishr, o_iushr, o_idiv, o_irem, o_ineg, o_dup, o_dup2, o_pop, o_if_eq, o_if_ne, o_if_lt, o_if_ge, o_if_gt, o_if_le, o_icmp_eq, o_icmp_ne, o_icmp_lt, o_icmp_ge, o_icmp_gt, o_icmp_le, o_nonnull, o_lsw2, o_iret, o_zret, o_vret, o_cV0, o_cV1, o_cV2, o_cV3, o_cV4, o_cV5, o_cV6, o_cS1, o_cS2, o_cS3, o_cS4, lg, lset, inB, pushv, c1, okr, at_, List.replicate, true_and, and_true, true_or, or_true, eq_self, forall_const, not_true_eq_false, not_false_eq_true, forall_eq, false_implies, true_implies,  List.length_nil, List.length_cons, Nat.zero_le, Nat.reduceAdd, Nat.reduceLeDiff, n0, n3, n7, gS0 ho, gS0 hb, gS1 ho, gS1 hb, gS2 ho, gS3 ho, gS4 ho, gS5 ho, gS6 ho, gS6 hb, gS7 ho, gS7 hb, gS8 ho, gS8 hb, pS2 hb, pS3 hb, pS4 hb, pS5 hb,
    acI hb.2.1 ho.2.1, acI hb.2.2.1 ho.2.2.1, acI hb.2.2.2.1 ho.2.2.2.1, acI hb.2.2.2.2.1 ho.2.2.2.2.1, acI hb.2.2.2.2.2 ho.2.2.2.2.2, wr_o, cp_o, hs.room, hs.up, hs.down, hs.n]
  refine h _ (fun a ha => by simp (disch := omega) only [wr_o, cp_o]) ⟨fun f hf => ⟨?_, ?_⟩, ⟨?_, ?_, ?_, ?_⟩, fun j hj => ⟨?_, ?_, ?_⟩⟩
  · simp (disch := omega) only [wr_o, cp_o]
    by_cases h3 : f < 3
    · rw [cp_s h3, hs.h f hf]
    · obtain rfl : f = 3 := by omega
      rw [cp_n (by omega), hc.1]; rfl
  · simp (disch := omega) only [wr_o, cp_o]
    by_cases h3 : f < 3
    · rw [cp_s h3, cp_o (by omega), hs.c f hf]
    · obtain rfl : f = 3 := by omega
      rw [cp_n (by omega), cp_o (by omega), hc.2]; rfl
  · simp (disch := omega) only [cp_o, wr_n]
    rw [wr_s]
  · simp (disch := omega) only [cp_o, wr_n]
    rw [wr_s]
  · simp (disch := omega) only [cp_o, wr_n]
    rw [wr_s]
  · simp (disch := omega) only [cp_o, wr_n]
    rw [wr_s]
  · simp (disch := omega) only [cp_o, wr_o, cp_s, hs.f]
  · simp (disch := omega) only [cp_o, wr_o, cp_s, hs.v]
  · simp (disch := omega) only [cp_o, wr_o, cp_s, hs.d]
end SHOPC
