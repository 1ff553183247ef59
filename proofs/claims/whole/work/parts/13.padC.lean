/-! drop; the pad -/
def pmV (V : Nat → Nat) (j t : Nat) : Nat → Nat := fun k => if 10 ≤ k ∧ k < 31 ∧ j ≤ (k - 10) % 7 ∧ (k - 10) % 7 < t then V (k + 1) else V k
abbrev canSt (V : Nat → Nat) (s told bt : Nat) : Prop := 48 ≤ s ∧ s - 48 < V 9 ∧ told.testBit (s - 48) = false ∧ (bt = 0 ∨ (V (10 + (s - 48)) = famS V bt ∧ volS V bt + V (17 + (s - 48)) ≤ V 6))
/-- reading on: place, told, open batch, batches -/
def padF (V sg : Nat → Nat) : Nat → Nat → Nat → Nat → Nat → (Nat → Nat) → Nat × Nat × Nat × Nat × (Nat → Nat)
  | 0, i, t, c, k, B => (i, t, c, k, B)
  | r + 1, i, t, c, k, B => if sg i = 47 then (if c = 0 then (i, t, c, k, B) else padF V sg r (i + 1) t 0 (k + 1) (upN B k c))
    else if canSt V (sg i) t c then padF V sg r (i + 1) (t ||| 2 ^ (sg i - 48)) (c ||| 2 ^ (sg i - 48)) k B else (i, t, c, k, B)
def padX (V : Nat → Nat) (len : Nat) (sg : Nat → Nat) : Nat × Nat × Nat × Nat × (Nat → Nat) := padF V sg len 0 0 0 0 (fun _ => 0)
def padFault (V : Nat → Nat) (len : Nat) (sg : Nat → Nat) : Option Nat := if (padX V len sg).1 < len then some (padX V len sg).1 else if (padX V len sg).2.2.1 = 0 then (if len = 0 then none else some len) else none
def padK (V : Nat → Nat) (len : Nat) (sg : Nat → Nat) : Nat := if (padX V len sg).2.2.1 = 0 then (padX V len sg).2.2.2.1 else (padX V len sg).2.2.2.1 + 1
def padB (V : Nat → Nat) (len : Nat) (sg : Nat → Nat) : Nat → Nat := if (padX V len sg).2.2.1 = 0 then (padX V len sg).2.2.2.2 else upN (padX V len sg).2.2.2.2 (padX V len sg).2.2.2.1 (padX V len sg).2.2.1
def PadAt (σ : Mem) (len : Nat) (sg : Nat → Nat) : Prop := len ≤ 14 ∧ σ 26 0 = nI len ∧ ∀ i, i < len → σ 27 i = nI (sg i) ∧ 33 ≤ sg i ∧ sg i ≤ 126
theorem PadAt.s {σ : Mem} {len : Nat} {sg : Nat → Nat} (h : PadAt σ len sg) (i : Nat) (hi : i < len) : σ 27 i = nI (sg i) := (h.2.2 i hi).1
theorem sh27 : sh 27 = shI 14 := rfl
theorem ofN_neg {a b x : Nat} (ha : a < b) (hb : b < 1000) (hx : x < 1000) : ¬ ((0 : Int32) ≤ nI a - nI b ∧ nI a - nI b ≤ nI x - nI 1) := by
  rintro ⟨h1, -⟩
  rw [Int32.le_iff_toInt_le, pk_sub_toInt (by omega) (by omega)] at h1
  have : (0 : Int32).toInt = 0 := by decide
  omega
theorem in_job {j n : Nat} (hj : j < 1000) (hn : n < 1000) : ((0 : Int32) ≤ nI j ∧ nI j ≤ nI n - nI 1) ↔ j < n := by
  rw [Int32.le_iff_toInt_le, Int32.le_iff_toInt_le, pk_sub_toInt (by omega) (by omega), nI_toInt (by omega)]
  have : (0 : Int32).toInt = 0 := by decide
  omega
section PADC
variable {G : Gp} {d : Nat} {Q : Option Value → Mem → Prop} {σ : Mem} {b p k : Nat} {V B : Nat → Nat}
theorem sp_remove {j : Nat} (hb : IsSh b) (hV : VOk V) (hs : ShAt σ b V) (hj : j < V 9) (h : ∀ τ, (∀ a, (a < b ∨ b + 5 < a) → τ a = σ a) → ShAt τ b (rmV V j) → Q none τ) :
    E G MX3_remove d 0 [some (.ref b), some (.int (nI j)), none] [] σ Q := by
  have hn := hV.2.2.2.2.1
  apply kX3_remove_0
  simp only [ia1, ia2, ia3, ia4, inn, inm, i10, i01, i0n, i1n, i0m, i1m, o_push, o_iload, o_aload, o_istore, o_iinc, o_iadd, o_isub, o_imul, o_iand, o_ior, o_ixor, o_ishl, o_ishr, o_iushr, o_idiv, o_irem, o_ineg, o_dup, o_dup2, o_pop, o_if_eq, o_if_ne, o_if_lt, o_if_ge, o_if_gt, o_if_le, o_icmp_eq, o_icmp_ne, o_icmp_lt, o_icmp_ge, o_icmp_gt, o_icmp_le, o_nonnull, o_lsw2, o_iret, o_zret, o_vret, o_cV0, o_cV1, o_cV2, o_cV3, o_cV4, o_cV5, o_cV6, o_cS1, o_cS2, o_cS3, o_cS4, lg, lset, inB, pushv, c1, okr, at_, List.replicate, true_and, and_true, true_or, or_true, eq_self, forall_const, not_true_eq_false, not_false_eq_true, forall_eq, false_implies, true_implies,  List.length_nil, List.length_cons, Nat.zero_le, Nat.reduceAdd, Nat.reduceLeDiff]
  have p9 : ∀ t, pmV V j t 9 = V 9 := fun t => by unfold pmV; rw [if_neg (by omega)]
  suffices H : ∀ k t (τ : Mem), k + t = V 9 - 1 → j ≤ t → (∀ a, (a < b ∨ b + 5 < a) → τ a = σ a) → ShAt τ b (pmV V j t) → E G MX3_remove d 2 [some (.ref b), some (.int (nI j)), some (.int (nI t))] [] τ Q by
    refine H (V 9 - 1 - j) j σ (by omega) (Nat.le_refl _) (fun _ _ => rfl) ?_
    have e : pmV V j j = V := by
      funext k
      unfold pmV
      rw [if_neg (by omega)]
    rw [e]; exact hs
  intro k
  induction k with
  | zero =>
    intro t τ hkt hjt hfr hT
    apply kX3_remove_2
    have hn9 := hT.n
    rw [p9] at hn9
    simp (disch := omega) only [ia1, ia2, ia3, ia4, inn, inm, i10, i01, i0n, i1n, i0m, i1m, o_push, o_iload, o_aload, o_istore, o_iinc, o_iadd, o_isub, o_imul, o_iand, o_ior, o_ixor, o_ishl, o_ishr, o_iushr, o_idiv, o_irem, o_ineg, o_dup, o_dup2, o_pop, o_if_eq, o_if_ne, o_if_lt, o_if_ge, o_if_gt, o_if_le, o_icmp_eq, o_icmp_ne, o_icmp_lt, o_icmp_ge, o_icmp_gt, o_icmp_le, o_nonnull, o_lsw2, o_iret, o_zret, o_vret, o_cV0, o_cV1, o_cV2, o_cV3, o_cV4, o_cV5, o_cV6, o_cS1, o_cS2, o_cS3, o_cS4, lg, lset, inB, pushv, c1, okr, at_, List.replicate, true_and, and_true, true_or, or_true, eq_self, forall_const, not_true_eq_false, not_false_eq_true, forall_eq, false_implies, true_implies,  List.length_nil, List.length_cons, Nat.zero_le, Nat.reduceAdd, Nat.reduceLeDiff, gS5 hb, hn9, n1, nSub, nLe, pS5 hb]
    refine ⟨fun _ => ?_, fun q => absurd (by omega) q⟩
    refine h _ (fun a ha => by rw [wr_o (by omega)]; exact hfr a ha) ⟨fun f hf => ?_, ⟨?_, ?_, ?_, ?_⟩, fun i hi => ?_⟩
    · rw [wr_o (by omega), wr_o (by omega), hT.h f hf, hT.c f hf]
      unfold ht ck pmV rmV
      constructor
      · congr 1
        split
        · rw [if_neg (by omega), if_neg (by omega), if_neg (by omega)]
        · rfl
      · congr 1
        split
        · rw [if_neg (by omega), if_neg (by omega), if_neg (by omega)]
        · rfl
    · rw [wr_n (by omega), hT.room]
      unfold pmV rmV
      rw [if_neg (by omega), if_neg (by omega), if_neg (by omega)]
    · rw [wr_n (by omega), hT.up]
      unfold pmV rmV
      rw [if_neg (by omega), if_neg (by omega), if_neg (by omega)]
    · rw [wr_n (by omega), hT.down]
      unfold pmV rmV
      rw [if_neg (by omega), if_neg (by omega), if_neg (by omega)]
    · rw [wr_s]
      unfold rmV
      rw [if_pos rfl]
    · have key : ∀ q, 10 ≤ q → q < 31 → pmV V j t q = rmV V j q := by
        intro q q1 q2
        unfold pmV rmV
        rw [if_neg (show ¬ q = 9 by omega)]
        by_cases hc : 10 ≤ q ∧ q < 31 ∧ j ≤ (q - 10) % 7 ∧ (q - 10) % 7 < t
        · rw [if_pos hc, if_pos (by omega)]
        · rw [if_neg hc, if_neg (by omega)]
      rw [wr_o (by omega), wr_o (by omega), wr_o (by omega), hT.f i hi, hT.v i hi, hT.d i hi, key _ (by omega) (by omega), key _ (by omega) (by omega), key _ (by omega) (by omega)]
      exact ⟨rfl, rfl, rfl⟩
  | succ k ih =>
    intro t τ hkt hjt hfr hT
    apply kX3_remove_2
    have hn9 := hT.n
    rw [p9] at hn9
    have pk : ∀ c, c = 10 ∨ c = 17 ∨ c = 24 → pmV V j t (c + (t + 1)) = V (c + t + 1) := by
      intro c hc
      unfold pmV
      rw [if_neg (by omega)]
      rfl
    simp (disch := omega) only [ia1, ia2, ia3, ia4, inn, inm, i10, i01, i0n, i1n, i0m, i1m, o_push, o_iload, o_aload, o_istore, o_iinc, o_iadd, o_isub, o_imul, o_iand, o_ior, o_ixor, o_ishl, o_ishr, o_iushr, o_idiv, o_irem, o_ineg, o_dup, o_dup2, o_pop, o_if_eq, o_if_ne, o_if_lt, o_if_ge, o_if_gt, o_if_le, o_icmp_eq, o_icmp_ne, o_icmp_lt, o_icmp_ge, o_icmp_gt, o_icmp_le, o_nonnull, o_lsw2, o_iret, o_zret, o_vret, o_cV0, o_cV1, o_cV2, o_cV3, o_cV4, o_cV5, o_cV6, o_cS1, o_cS2, o_cS3, o_cS4, lg, lset, inB, pushv, c1, okr, at_, List.replicate, true_and, and_true, true_or, or_true, eq_self, forall_const, not_true_eq_false, not_false_eq_true, forall_eq, false_implies, true_implies,  List.length_nil, List.length_cons, Nat.zero_le, Nat.reduceAdd, Nat.reduceLeDiff, gS5 hb, hn9, n1, nSub, nLe, nI_add, gS6 hb, gS7 hb, gS8 hb, ld7 hb.2.2.2.1, ld7 hb.2.2.2.2.1, ld7 hb.2.2.2.2.2, st7 hb.2.2.2.1, st7 hb.2.2.2.2.1, st7 hb.2.2.2.2.2, wr_o, hT.f, hT.v, hT.d, pk]
    refine ⟨fun q => absurd q (by omega), fun _ => ih (t + 1) _ (by omega) (by omega) (fun a ha => by rw [wr_o (by omega), wr_o (by omega), wr_o (by omega)]; exact hfr a ha) ⟨fun f hf => ?_, ?_, fun i hi => ?_⟩⟩
    · rw [wr_o (by omega), wr_o (by omega), wr_o (by omega), wr_o (by omega), wr_o (by omega), wr_o (by omega), hT.h f hf, hT.c f hf]
      unfold ht ck pmV
      constructor
      · congr 1
        split
        · rw [if_neg (by omega), if_neg (by omega)]
        · rfl
      · congr 1
        split
        · rw [if_neg (by omega), if_neg (by omega)]
        · rfl
    · rw [wr_o (by omega), wr_o (by omega), wr_o (by omega), hT.room, hT.up, hT.down, hn9, p9]
      unfold pmV
      rw [if_neg (by omega), if_neg (by omega), if_neg (by omega), if_neg (by omega), if_neg (by omega), if_neg (by omega)]
      exact ⟨rfl, rfl, rfl, rfl⟩
    · have key : ∀ c, c = 10 ∨ c = 17 ∨ c = 24 → i ≠ t → pmV V j t (c + i) = pmV V j (t + 1) (c + i) := by
        intro c hc hit
        unfold pmV
        by_cases hz : 10 ≤ c + i ∧ c + i < 31 ∧ j ≤ (c + i - 10) % 7 ∧ (c + i - 10) % 7 < t
        · rw [if_pos hz, if_pos (by omega)]
        · rw [if_neg hz, if_neg (by omega)]
      have key2 : ∀ c, c = 10 ∨ c = 17 ∨ c = 24 → pmV V j (t + 1) (c + t) = V (c + t + 1) := by
        intro c hc
        unfold pmV
        rw [if_pos (by omega)]
      by_cases hit : i = t
      · subst hit
        rw [wr_o (by omega), wr_o (by omega), wr_s, wr_o (by omega), wr_s, wr_s, key2 10 (by omega), key2 17 (by omega), key2 24 (by omega)]
        exact ⟨rfl, rfl, rfl⟩
      · rw [wr_o (by omega), wr_o (by omega), wr_n (by omega), wr_o (by omega), wr_n (by omega), wr_o (by omega), wr_n (by omega), wr_o (by omega), wr_o (by omega), hT.f i hi, hT.v i hi, hT.d i hi, key 10 (by omega) hit, key 17 (by omega) hit, key 24 (by omega) hit]
        exact ⟨rfl, rfl, rfl⟩
theorem sp_mayStand {s t c : Nat} (hs0 : s < 200) (ht : t < 128) (hc : c < 128) (hb : IsSh b) (hV : VOk V) (hs : ShAt σ b V) (h1 : canSt V s t c → Q (some (.int 1)) σ) (h0 : ¬ canSt V s t c → Q (some (.int 0)) σ) :
    E G MX0_mayStand (d + 3) 0 [some (.ref b), some (.int (nI s - nI 48)), some (.int (nI t)), some (.int (nI c))] [] σ Q := by
  have hn := hV.2.2.2.2.1
  apply kX0_mayStand_0
  simp only [ia1, ia2, ia3, ia4, inn, inm, i10, i01, i0n, i1n, i0m, i1m, o_push, o_iload, o_aload, o_istore, o_iinc, o_iadd, o_isub, o_imul, o_iand, o_ior, o_ixor, o_ishl, o_ishr, o_iushr, o_idiv, o_irem, o_ineg, o_dup, o_dup2, o_pop, o_if_eq, o_if_ne, o_if_lt, o_if_ge, o_if_gt, o_if_le, o_icmp_eq, o_icmp_ne, o_icmp_lt, o_icmp_ge, o_icmp_gt, o_icmp_le, o_nonnull, o_lsw2, o_iret, o_zret, o_vret, o_cV0, o_cV1, o_cV2, o_cV3, o_cV4, o_cV5, o_cV6, o_cS1, o_cS2, o_cS3, o_cS4, lg, lset, inB, pushv, c1, okr, at_, List.replicate, true_and, and_true, true_or, or_true, eq_self, forall_const, not_true_eq_false, not_false_eq_true, forall_eq, false_implies, true_implies,  List.length_nil, List.length_cons, Nat.zero_le, Nat.reduceAdd, Nat.reduceLeDiff, gS5 hb, hs.n, n1]
  rw [← n1]
  by_cases hlt : s < 48
  · refine sp_isWithin (fun q => absurd q (ofN_neg hlt (by omega) (by omega))) (fun _ => ?_)
    simp only [ia1, ia2, ia3, ia4, inn, inm, i10, i01, i0n, i1n, i0m, i1m, o_push, o_iload, o_aload, o_istore, o_iinc, o_iadd, o_isub, o_imul, o_iand, o_ior, o_ixor, o_ishl, o_ishr, o_iushr, o_idiv, o_irem, o_ineg, o_dup, o_dup2, o_pop, o_if_eq, o_if_ne, o_if_lt, o_if_ge, o_if_gt, o_if_le, o_icmp_eq, o_icmp_ne, o_icmp_lt, o_icmp_ge, o_icmp_gt, o_icmp_le, o_nonnull, o_lsw2, o_iret, o_zret, o_vret, o_cV0, o_cV1, o_cV2, o_cV3, o_cV4, o_cV5, o_cV6, o_cS1, o_cS2, o_cS3, o_cS4, lg, lset, inB, pushv, c1, okr, at_, List.replicate, true_and, and_true, true_or, or_true, eq_self, forall_const, not_true_eq_false, not_false_eq_true, forall_eq, false_implies, true_implies,  List.length_nil, List.length_cons, Nat.zero_le, Nat.reduceAdd, Nat.reduceLeDiff]
    exact h0 (fun z => by omega)
  · rw [nSub (show 48 ≤ s by omega)]
    refine sp_isWithin (fun q => ?_) (fun q => ?_)
    · rw [n1, in_job (by omega) (by omega)] at q
      simp only [ia1, ia2, ia3, ia4, inn, inm, i10, i01, i0n, i1n, i0m, i1m, o_push, o_iload, o_aload, o_istore, o_iinc, o_iadd, o_isub, o_imul, o_iand, o_ior, o_ixor, o_ishl, o_ishr, o_iushr, o_idiv, o_irem, o_ineg, o_dup, o_dup2, o_pop, o_if_eq, o_if_ne, o_if_lt, o_if_ge, o_if_gt, o_if_le, o_icmp_eq, o_icmp_ne, o_icmp_lt, o_icmp_ge, o_icmp_gt, o_icmp_le, o_nonnull, o_lsw2, o_iret, o_zret, o_vret, o_cV0, o_cV1, o_cV2, o_cV3, o_cV4, o_cV5, o_cV6, o_cS1, o_cS2, o_cS3, o_cS4, lg, lset, inB, pushv, c1, okr, at_, List.replicate, true_and, and_true, true_or, or_true, eq_self, forall_const, not_true_eq_false, not_false_eq_true, forall_eq, false_implies, true_implies,  List.length_nil, List.length_cons, Nat.zero_le, Nat.reduceAdd, Nat.reduceLeDiff]
      refine sp_contains (by omega) (by omega) (fun hbit => ?_) (fun hbit => ?_)
      · simp only [ia1, ia2, ia3, ia4, inn, inm, i10, i01, i0n, i1n, i0m, i1m, o_push, o_iload, o_aload, o_istore, o_iinc, o_iadd, o_isub, o_imul, o_iand, o_ior, o_ixor, o_ishl, o_ishr, o_iushr, o_idiv, o_irem, o_ineg, o_dup, o_dup2, o_pop, o_if_eq, o_if_ne, o_if_lt, o_if_ge, o_if_gt, o_if_le, o_icmp_eq, o_icmp_ne, o_icmp_lt, o_icmp_ge, o_icmp_gt, o_icmp_le, o_nonnull, o_lsw2, o_iret, o_zret, o_vret, o_cV0, o_cV1, o_cV2, o_cV3, o_cV4, o_cV5, o_cV6, o_cS1, o_cS2, o_cS3, o_cS4, lg, lset, inB, pushv, c1, okr, at_, List.replicate, true_and, and_true, true_or, or_true, eq_self, forall_const, not_true_eq_false, not_false_eq_true, forall_eq, false_implies, true_implies,  List.length_nil, List.length_cons, Nat.zero_le, Nat.reduceAdd, Nat.reduceLeDiff]
        exact h0 (fun z => by have z3 := z.2.2.1; rw [hbit] at z3; cases z3)
      · simp (disch := omega) only [ia1, ia2, ia3, ia4, inn, inm, i10, i01, i0n, i1n, i0m, i1m, o_push, o_iload, o_aload, o_istore, o_iinc, o_iadd, o_isub, o_imul, o_iand, o_ior, o_ixor, o_ishl, o_ishr, o_iushr, o_idiv, o_irem, o_ineg, o_dup, o_dup2, o_pop, o_if_eq, o_if_ne, o_if_lt, o_if_ge, o_if_gt, o_if_le, o_icmp_eq, o_icmp_ne, o_icmp_lt, o_icmp_ge, o_icmp_gt, o_icmp_le, o_nonnull, o_lsw2, o_iret, o_zret, o_vret, o_cV0, o_cV1, o_cV2, o_cV3, o_cV4, o_cV5, o_cV6, o_cS1, o_cS2, o_cS3, o_cS4, lg, lset, inB, pushv, c1, okr, at_, List.replicate, true_and, and_true, true_or, or_true, eq_self, forall_const, not_true_eq_false, not_false_eq_true, forall_eq, false_implies, true_implies,  List.length_nil, List.length_cons, Nat.zero_le, Nat.reduceAdd, Nat.reduceLeDiff, n0, nEq, hb.k]
        refine ⟨fun q2 => ?_, fun q2 => sp_fits (by omega) hc hb hV hs (fun z => ?_) (fun z => ?_)⟩
        · exact h1 ⟨by omega, q, hbit, Or.inl q2⟩
        · simp only [ia1, ia2, ia3, ia4, inn, inm, i10, i01, i0n, i1n, i0m, i1m, o_push, o_iload, o_aload, o_istore, o_iinc, o_iadd, o_isub, o_imul, o_iand, o_ior, o_ixor, o_ishl, o_ishr, o_iushr, o_idiv, o_irem, o_ineg, o_dup, o_dup2, o_pop, o_if_eq, o_if_ne, o_if_lt, o_if_ge, o_if_gt, o_if_le, o_icmp_eq, o_icmp_ne, o_icmp_lt, o_icmp_ge, o_icmp_gt, o_icmp_le, o_nonnull, o_lsw2, o_iret, o_zret, o_vret, o_cV0, o_cV1, o_cV2, o_cV3, o_cV4, o_cV5, o_cV6, o_cS1, o_cS2, o_cS3, o_cS4, lg, lset, inB, pushv, c1, okr, at_, List.replicate, true_and, and_true, true_or, or_true, eq_self, forall_const, not_true_eq_false, not_false_eq_true, forall_eq, false_implies, true_implies,  List.length_nil, List.length_cons, Nat.zero_le, Nat.reduceAdd, Nat.reduceLeDiff]
          exact h1 ⟨by omega, q, hbit, Or.inr z⟩
        · simp only [ia1, ia2, ia3, ia4, inn, inm, i10, i01, i0n, i1n, i0m, i1m, o_push, o_iload, o_aload, o_istore, o_iinc, o_iadd, o_isub, o_imul, o_iand, o_ior, o_ixor, o_ishl, o_ishr, o_iushr, o_idiv, o_irem, o_ineg, o_dup, o_dup2, o_pop, o_if_eq, o_if_ne, o_if_lt, o_if_ge, o_if_gt, o_if_le, o_icmp_eq, o_icmp_ne, o_icmp_lt, o_icmp_ge, o_icmp_gt, o_icmp_le, o_nonnull, o_lsw2, o_iret, o_zret, o_vret, o_cV0, o_cV1, o_cV2, o_cV3, o_cV4, o_cV5, o_cV6, o_cS1, o_cS2, o_cS3, o_cS4, lg, lset, inB, pushv, c1, okr, at_, List.replicate, true_and, and_true, true_or, or_true, eq_self, forall_const, not_true_eq_false, not_false_eq_true, forall_eq, false_implies, true_implies,  List.length_nil, List.length_cons, Nat.zero_le, Nat.reduceAdd, Nat.reduceLeDiff]
          exact h0 (fun w => w.2.2.2.elim (fun w => q2 w) (fun w => z w))
    · rw [n1, in_job (by omega) (by omega)] at q
      simp only [ia1, ia2, ia3, ia4, inn, inm, i10, i01, i0n, i1n, i0m, i1m, o_push, o_iload, o_aload, o_istore, o_iinc, o_iadd, o_isub, o_imul, o_iand, o_ior, o_ixor, o_ishl, o_ishr, o_iushr, o_idiv, o_irem, o_ineg, o_dup, o_dup2, o_pop, o_if_eq, o_if_ne, o_if_lt, o_if_ge, o_if_gt, o_if_le, o_icmp_eq, o_icmp_ne, o_icmp_lt, o_icmp_ge, o_icmp_gt, o_icmp_le, o_nonnull, o_lsw2, o_iret, o_zret, o_vret, o_cV0, o_cV1, o_cV2, o_cV3, o_cV4, o_cV5, o_cV6, o_cS1, o_cS2, o_cS3, o_cS4, lg, lset, inB, pushv, c1, okr, at_, List.replicate, true_and, and_true, true_or, or_true, eq_self, forall_const, not_true_eq_false, not_false_eq_true, forall_eq, false_implies, true_implies,  List.length_nil, List.length_cons, Nat.zero_le, Nat.reduceAdd, Nat.reduceLeDiff]
      exact h0 (fun z => q z.2.1)
theorem sp_read {len : Nat} {sg : Nat → Nat} (hV : VOk V) (hs : ShAt σ 1 V) (hp : PadAt σ len sg)
    (h : ∀ τ, (∀ a, a ≠ 28 → a ≠ 29 → a ≠ 30 → τ a = σ a) → (padFault V len sg = none → PlAt τ 28 V (padK V len sg) (padB V len sg)) → Q (some (.int (orNone (padFault V len sg)))) τ) :
    E G MX0_read (d + 4) 0 [some (.ref 26), some (.ref 1), some (.ref 28), none, none, none, none] [] σ Q := by
  have hlen := hp.1
  apply kX0_read_0
  simp only [ia1, ia2, ia3, ia4, inn, inm, i10, i01, i0n, i1n, i0m, i1m, o_push, o_iload, o_aload, o_istore, o_iinc, o_iadd, o_isub, o_imul, o_iand, o_ior, o_ixor, o_ishl, o_ishr, o_iushr, o_idiv, o_irem, o_ineg, o_dup, o_dup2, o_pop, o_if_eq, o_if_ne, o_if_lt, o_if_ge, o_if_gt, o_if_le, o_icmp_eq, o_icmp_ne, o_icmp_lt, o_icmp_ge, o_icmp_gt, o_icmp_le, o_nonnull, o_lsw2, o_iret, o_zret, o_vret, o_cV0, o_cV1, o_cV2, o_cV3, o_cV4, o_cV5, o_cV6, o_cS1, o_cS2, o_cS3, o_cS4, lg, lset, inB, pushv, c1, okr, at_, List.replicate, true_and, and_true, true_or, or_true, eq_self, forall_const, not_true_eq_false, not_false_eq_true, forall_eq, false_implies, true_implies,  List.length_nil, List.length_cons, Nat.zero_le, Nat.reduceAdd, Nat.reduceLeDiff, isPl28.k]
  refine sp_clear isPl28 ?_
  simp only [ia1, ia2, ia3, ia4, inn, inm, i10, i01, i0n, i1n, i0m, i1m, o_push, o_iload, o_aload, o_istore, o_iinc, o_iadd, o_isub, o_imul, o_iand, o_ior, o_ixor, o_ishl, o_ishr, o_iushr, o_idiv, o_irem, o_ineg, o_dup, o_dup2, o_pop, o_if_eq, o_if_ne, o_if_lt, o_if_ge, o_if_gt, o_if_le, o_icmp_eq, o_icmp_ne, o_icmp_lt, o_icmp_ge, o_icmp_gt, o_icmp_le, o_nonnull, o_lsw2, o_iret, o_zret, o_vret, o_cV0, o_cV1, o_cV2, o_cV3, o_cV4, o_cV5, o_cV6, o_cS1, o_cS2, o_cS3, o_cS4, lg, lset, inB, pushv, c1, okr, at_, List.replicate, true_and, and_true, true_or, or_true, eq_self, forall_const, not_true_eq_false, not_false_eq_true, forall_eq, false_implies, true_implies,  List.length_nil, List.length_cons, Nat.zero_le, Nat.reduceAdd, Nat.reduceLeDiff, n0]
  suffices H : ∀ r i t c k (B : Nat → Nat) (τ : Mem) (x : Option Value), r + i = len → (∀ a, a ≠ 28 → a ≠ 29 → a ≠ 30 → τ a = σ a) → PlAt τ 28 V k B → t < 128 → c < 128 → 2 * k + (if c = 0 then 0 else 1) ≤ i → padF V sg r i t c k B = padX V len sg →
      E G MX0_read (d + 4) 12 [some (.ref 26), some (.ref 1), some (.ref 28), some (.int (nI t)), some (.int (nI c)), some (.int (nI i)), x] [] τ Q by
    refine H len 0 0 0 0 (fun _ => 0) _ _ (by omega) (fun a h1 h2 h3 => by rw [wr_o h1]) clear_at (by omega) (by omega) (by simp) rfl
  intro r
  induction r with
  | zero =>
    intro i t c k B τ x hri hfr hP ht hc hk hF
    obtain rfl : i = len := by omega
    have hF' : padX V i sg = (i, t, c, k, B) := by rw [← hF]; rfl
    have hs' : ShAt τ 1 V := hs.fr (fun a _ _ => hfr a (by omega) (by omega) (by omega))
    have hl26 : τ 26 0 = nI i := by rw [hfr 26 (by omega) (by omega) (by omega)]; exact hp.2.1
    apply kX0_read_12
    simp (disch := omega) only [ia1, ia2, ia3, ia4, inn, inm, i10, i01, i0n, i1n, i0m, i1m, o_push, o_iload, o_aload, o_istore, o_iinc, o_iadd, o_isub, o_imul, o_iand, o_ior, o_ixor, o_ishl, o_ishr, o_iushr, o_idiv, o_irem, o_ineg, o_dup, o_dup2, o_pop, o_if_eq, o_if_ne, o_if_lt, o_if_ge, o_if_gt, o_if_le, o_icmp_eq, o_icmp_ne, o_icmp_lt, o_icmp_ge, o_icmp_gt, o_icmp_le, o_nonnull, o_lsw2, o_iret, o_zret, o_vret, o_cV0, o_cV1, o_cV2, o_cV3, o_cV4, o_cV5, o_cV6, o_cS1, o_cS2, o_cS3, o_cS4, lg, lset, inB, pushv, c1, okr, at_, List.replicate, true_and, and_true, true_or, or_true, eq_self, forall_const, not_true_eq_false, not_false_eq_true, forall_eq, false_implies, true_implies,  List.length_nil, List.length_cons, Nat.zero_le, Nat.reduceAdd, Nat.reduceLeDiff, gD0, gD1, hl26, nLe, isPl28.k, n0, nEq]
    refine ⟨fun _ => ⟨fun q => ⟨fun q2 => ?_, fun q2 => ?_⟩, fun q => ?_⟩, fun q => absurd (Nat.le_refl _) q⟩
    · have e : padFault V i sg = some i := by unfold padFault; rw [hF', if_neg (by simp), if_pos q, if_neg q2]
      have := h τ hfr (fun z => by rw [e] at z; cases z)
      rw [e] at this
      exact this
    · have e : padFault V i sg = none := by unfold padFault; rw [hF', if_neg (by simp), if_pos q, if_pos q2]
      have := h τ hfr (fun _ => by unfold padK padB; rw [hF', if_pos q, if_pos q]; exact hP)
      rw [e] at this
      exact this
    · rw [if_neg q] at hk
      refine sp_add isSh1 isPl28 (by omega) hV hs' hP (by omega) q hc (fun τ2 f2 hP2 => ?_)
      simp only [ia1, ia2, ia3, ia4, inn, inm, i10, i01, i0n, i1n, i0m, i1m, o_push, o_iload, o_aload, o_istore, o_iinc, o_iadd, o_isub, o_imul, o_iand, o_ior, o_ixor, o_ishl, o_ishr, o_iushr, o_idiv, o_irem, o_ineg, o_dup, o_dup2, o_pop, o_if_eq, o_if_ne, o_if_lt, o_if_ge, o_if_gt, o_if_le, o_icmp_eq, o_icmp_ne, o_icmp_lt, o_icmp_ge, o_icmp_gt, o_icmp_le, o_nonnull, o_lsw2, o_iret, o_zret, o_vret, o_cV0, o_cV1, o_cV2, o_cV3, o_cV4, o_cV5, o_cV6, o_cS1, o_cS2, o_cS3, o_cS4, lg, lset, inB, pushv, c1, okr, at_, List.replicate, true_and, and_true, true_or, or_true, eq_self, forall_const, not_true_eq_false, not_false_eq_true, forall_eq, false_implies, true_implies,  List.length_nil, List.length_cons, Nat.zero_le, Nat.reduceAdd, Nat.reduceLeDiff]
      have e : padFault V i sg = none := by unfold padFault; rw [hF', if_neg (by simp), if_neg q]
      have := h τ2 (fun a h1 h2 h3 => by rw [f2 a h1 h2 h3]; exact hfr a h1 h2 h3) (fun _ => by unfold padK padB; rw [hF', if_neg q, if_neg q]; exact hP2)
      rw [e] at this
      exact this
  | succ r ih =>
    intro i t c k B τ x hri hfr hP ht hc hk hF
    have hs' : ShAt τ 1 V := hs.fr (fun a _ _ => hfr a (by omega) (by omega) (by omega))
    have hl26 : τ 26 0 = nI len := by rw [hfr 26 (by omega) (by omega) (by omega)]; exact hp.2.1
    have hsg := hp.2.2 i (by omega)
    have hsi : τ 27 i = nI (sg i) := by rw [hfr 27 (by omega) (by omega) (by omega)]; exact hsg.1
    have flt : (i, t, c, k, B) = padX V len sg → Q (some (.int (nI i))) τ := by
      intro hX
      have e : padFault V len sg = some i := by unfold padFault; rw [← hX, if_pos (by show i < len; omega)]
      have := h τ hfr (fun z => by rw [e] at z; cases z)
      rw [e] at this
      exact this
    have hn := hV.2.2.2.2.1
    apply kX0_read_12
    simp (disch := omega) only [ia1, ia2, ia3, ia4, inn, inm, i10, i01, i0n, i1n, i0m, i1m, o_push, o_iload, o_aload, o_istore, o_iinc, o_iadd, o_isub, o_imul, o_iand, o_ior, o_ixor, o_ishl, o_ishr, o_iushr, o_idiv, o_irem, o_ineg, o_dup, o_dup2, o_pop, o_if_eq, o_if_ne, o_if_lt, o_if_ge, o_if_gt, o_if_le, o_icmp_eq, o_icmp_ne, o_icmp_lt, o_icmp_ge, o_icmp_gt, o_icmp_le, o_nonnull, o_lsw2, o_iret, o_zret, o_vret, o_cV0, o_cV1, o_cV2, o_cV3, o_cV4, o_cV5, o_cV6, o_cS1, o_cS2, o_cS3, o_cS4, lg, lset, inB, pushv, c1, okr, at_, List.replicate, true_and, and_true, true_or, or_true, eq_self, forall_const, not_true_eq_false, not_false_eq_true, forall_eq, false_implies, true_implies,  List.length_nil, List.length_cons, Nat.zero_le, Nat.reduceAdd, Nat.reduceLeDiff, gD0, gD1, hl26, nLe, isPl28.k, n0, n47, n48, nEq, ldI sh27, hsi]
    refine ⟨fun q => absurd q (by omega), fun _ => ⟨fun q => ?_, fun q => ⟨fun q2 => ?_, fun q2 => ?_⟩⟩⟩
    · rw [padF, if_neg q] at hF
      refine sp_mayStand (by omega) ht hc isSh1 hV hs' (fun z => ?_) (fun z => ?_)
      · rw [if_pos z] at hF
        have hj : sg i - 48 < 7 := by have := z.2.1; omega
        have h2 : 2 ^ (sg i - 48) < 2 ^ 7 := Nat.pow_lt_pow_right (by omega) hj
        rw [nSub (show 48 ≤ sg i by exact z.1)]
        simp (disch := omega) only [ia1, ia2, ia3, ia4, inn, inm, i10, i01, i0n, i1n, i0m, i1m, o_push, o_iload, o_aload, o_istore, o_iinc, o_iadd, o_isub, o_imul, o_iand, o_ior, o_ixor, o_ishl, o_ishr, o_iushr, o_idiv, o_irem, o_ineg, o_dup, o_dup2, o_pop, o_if_eq, o_if_ne, o_if_lt, o_if_ge, o_if_gt, o_if_le, o_icmp_eq, o_icmp_ne, o_icmp_lt, o_icmp_ge, o_icmp_gt, o_icmp_le, o_nonnull, o_lsw2, o_iret, o_zret, o_vret, o_cV0, o_cV1, o_cV2, o_cV3, o_cV4, o_cV5, o_cV6, o_cS1, o_cS2, o_cS3, o_cS4, lg, lset, inB, pushv, c1, okr, at_, List.replicate, true_and, and_true, true_or, or_true, eq_self, forall_const, not_true_eq_false, not_false_eq_true, forall_eq, false_implies, true_implies,  List.length_nil, List.length_cons, Nat.zero_le, Nat.reduceAdd, Nat.reduceLeDiff, n1, nI_add, shl1, fa_or]
        refine ih (i + 1) _ _ k B τ _ (by omega) hfr hP (Nat.or_lt_two_pow (n := 7) ht h2) (Nat.or_lt_two_pow (n := 7) hc h2) ?_ hF
        split <;> split at hk <;> omega
      · rw [if_neg z] at hF
        simp only [ia1, ia2, ia3, ia4, inn, inm, i10, i01, i0n, i1n, i0m, i1m, o_push, o_iload, o_aload, o_istore, o_iinc, o_iadd, o_isub, o_imul, o_iand, o_ior, o_ixor, o_ishl, o_ishr, o_iushr, o_idiv, o_irem, o_ineg, o_dup, o_dup2, o_pop, o_if_eq, o_if_ne, o_if_lt, o_if_ge, o_if_gt, o_if_le, o_icmp_eq, o_icmp_ne, o_icmp_lt, o_icmp_ge, o_icmp_gt, o_icmp_le, o_nonnull, o_lsw2, o_iret, o_zret, o_vret, o_cV0, o_cV1, o_cV2, o_cV3, o_cV4, o_cV5, o_cV6, o_cS1, o_cS2, o_cS3, o_cS4, lg, lset, inB, pushv, c1, okr, at_, List.replicate, true_and, and_true, true_or, or_true, eq_self, forall_const, not_true_eq_false, not_false_eq_true, forall_eq, false_implies, true_implies,  List.length_nil, List.length_cons, Nat.zero_le, Nat.reduceAdd, Nat.reduceLeDiff]
        exact flt hF
    · rw [padF, if_pos q, if_neg q2] at hF
      rw [if_neg q2] at hk
      refine sp_add isSh1 isPl28 (by omega) hV hs' hP (by omega) q2 hc (fun τ2 f2 hP2 => ?_)
      simp only [ia1, ia2, ia3, ia4, inn, inm, i10, i01, i0n, i1n, i0m, i1m, o_push, o_iload, o_aload, o_istore, o_iinc, o_iadd, o_isub, o_imul, o_iand, o_ior, o_ixor, o_ishl, o_ishr, o_iushr, o_idiv, o_irem, o_ineg, o_dup, o_dup2, o_pop, o_if_eq, o_if_ne, o_if_lt, o_if_ge, o_if_gt, o_if_le, o_icmp_eq, o_icmp_ne, o_icmp_lt, o_icmp_ge, o_icmp_gt, o_icmp_le, o_nonnull, o_lsw2, o_iret, o_zret, o_vret, o_cV0, o_cV1, o_cV2, o_cV3, o_cV4, o_cV5, o_cV6, o_cS1, o_cS2, o_cS3, o_cS4, lg, lset, inB, pushv, c1, okr, at_, List.replicate, true_and, and_true, true_or, or_true, eq_self, forall_const, not_true_eq_false, not_false_eq_true, forall_eq, false_implies, true_implies,  List.length_nil, List.length_cons, Nat.zero_le, Nat.reduceAdd, Nat.reduceLeDiff, n0, n1, nI_add]
      exact ih (i + 1) t 0 (k + 1) (upN B k c) τ2 _ (by omega) (fun a h1 h2 h3 => by rw [f2 a h1 h2 h3]; exact hfr a h1 h2 h3) hP2 ht (by omega) (by simp; omega) hF
    · rw [padF, if_pos q, if_pos q2] at hF
      exact flt hF
theorem sp_write {len : Nat} {x : Int32} (hl : len < 14) (h26 : σ 26 0 = nI len) (h : Q none (wr (wr σ 27 len x) 26 0 (nI (len + 1)))) : E G MX0_write d 0 [some (.ref 26), some (.int x)] [] σ Q := by
  apply kX0_write_0
  simp (disch := omega) only [ia1, ia2, ia3, ia4, inn, inm, i10, i01, i0n, i1n, i0m, i1m, o_push, o_iload, o_aload, o_istore, o_iinc, o_iadd, o_isub, o_imul, o_iand, o_ior, o_ixor, o_ishl, o_ishr, o_iushr, o_idiv, o_irem, o_ineg, o_dup, o_dup2, o_pop, o_if_eq, o_if_ne, o_if_lt, o_if_ge, o_if_gt, o_if_le, o_icmp_eq, o_icmp_ne, o_icmp_lt, o_icmp_ge, o_icmp_gt, o_icmp_le, o_nonnull, o_lsw2, o_iret, o_zret, o_vret, o_cV0, o_cV1, o_cV2, o_cV3, o_cV4, o_cV5, o_cV6, o_cS1, o_cS2, o_cS3, o_cS4, lg, lset, inB, pushv, c1, okr, at_, List.replicate, true_and, and_true, true_or, or_true, eq_self, forall_const, not_true_eq_false, not_false_eq_true, forall_eq, false_implies, true_implies,  List.length_nil, List.length_cons, Nat.zero_le, Nat.reduceAdd, Nat.reduceLeDiff, gD0, gD1, h26, stI sh27, wr_o, pD0, n1, nI_add]
  exact h
end PADC
