/-! PUT IN; THE RULE -/
def insB (B : Nat → Nat) (b s : Nat) : Nat → Nat := fun i => if i < b then B i else if i = b then s else B (i - 1)
abbrev okP (V : Nat → Nat) (k : Nat) (B : Nat → Nat) (j pl : Nat) : Prop := pl % 2 = 0 ∨ (pl / 2 < k ∧ V (10 + j) = famS V (B (pl / 2)) ∧ volS V (B (pl / 2)) + V (17 + j) ≤ V 6)
def nK (k pl : Nat) : Nat := if pl % 2 = 0 then k + 1 else k
def nB (B : Nat → Nat) (j pl : Nat) : Nat → Nat := if pl % 2 = 0 then insB B (pl / 2) (2 ^ j) else upN B (pl / 2) (B (pl / 2) ||| 2 ^ j)
/-- the least SUM over the places below, and its least place -/
def putR (V : Nat → Nat) (k : Nat) (B : Nat → Nat) (j : Nat) : Nat → Nat × Nat
  | 0 => (1000000, 0)
  | pl + 1 => if okP V k B j pl ∧ msR 1 V (nB B j pl) (nK k pl) < (putR V k B j pl).1 then (msR 1 V (nB B j pl) (nK k pl), pl) else putR V k B j pl
theorem PlAt.congr {σ : Mem} {p k : Nat} {V B B' : Nat → Nat} (h : PlAt σ p V k B) (hB : ∀ i, i < k → B i = B' i) : PlAt σ p V k B' := by
  refine ⟨h.1, h.2.1, fun i hi => ?_⟩
  have h1 := h.2.2 i hi
  rw [hB i hi, enR_congr i (fun j hj => hB j (by omega))] at h1
  exact h1
theorem PlAt.snoc {σ : Mem} {p k S : Nat} {V X : Nat → Nat} (h : PlAt σ p V (k + 1) (upN X k S)) (hS : S = X k) : PlAt σ p V (k + 1) X := by
  refine h.congr (fun i hi => ?_)
  unfold upN
  by_cases hik : i = k
  · rw [if_pos hik, hik]; exact hS
  · rw [if_neg hik]
theorem putR_lt {V : Nat → Nat} {k : Nat} {B : Nat → Nat} {j : Nat} : ∀ pl, (putR V k B j pl).1 ≤ 1000000 ∧ (putR V k B j pl).2 ≤ pl
  | 0 => ⟨Nat.le_refl _, Nat.le_refl _⟩
  | pl + 1 => by
    have h := putR_lt (V := V) (k := k) (B := B) (j := j) pl
    unfold putR
    split
    · rename_i q
      exact ⟨Nat.le_trans (Nat.le_of_lt q.2) h.1, Nat.le_succ _⟩
    · exact ⟨h.1, Nat.le_succ_of_le h.2⟩
section PUTC
variable {G : Gp} {d : Nat} {Q : Option Value → Mem → Prop} {σ : Mem} {b p k : Nat} {V B : Nat → Nat}
theorem nmax : (1000000 : Int32) = nI 1000000 := by decide +kernel
theorem ndiv2 {n : Nat} (h : n < 2 ^ 31) : nI n / nI 2 = nI (n / 2) := pk_div h (by omega) (by omega)
theorem nrem2 {n : Nat} (h : n < 2 ^ 31) : nI n - nI n / nI 2 * nI 2 = nI (n % 2) := pk_rem h (by omega) (by omega)
theorem sp_becomeWith {j pl : Nat} (hj : j < 7) (hpl : pl ≤ 2 * k) (hk : k < 7) (hV : VOk V) (hs : ShAt σ 1 V) (hP : PlAt σ 28 V k B) (hB0 : ∀ i, i < k → B i ≠ 0)
    (ht : okP V k B j pl → ∀ τ, (∀ a, a ≠ 31 → a ≠ 32 → a ≠ 33 → τ a = σ a) → PlAt τ 31 V (nK k pl) (nB B j pl) → Q (some (.int 1)) τ) (hf : ¬ okP V k B j pl → Q (some (.int 0)) σ) :
    E G MX1_becomeWith (d + 3) 0 [some (.ref 31), some (.ref 1), some (.ref 28), some (.int (nI j)), some (.int (nI pl)), none, none, none] [] σ Q := by
  have hp2 : 2 ^ j < 2 ^ 7 := Nat.pow_lt_pow_right (by omega) hj
  have hp0 : 2 ^ j ≠ 0 := Nat.ne_of_gt (Nat.two_pow_pos j)
  -- the loop
  have loop : ∀ (jo : Nat), jo = pl % 2 → okP V k B j pl → ∀ (x : Option Value), E G MX1_becomeWith (d + 3) 59 [some (.ref 31), some (.ref 1), some (.ref 28), some (.int (nI j)), some (.int (nI pl)), some (.int (nI (pl / 2))), some (.int (nI jo)), some (.int (nI 0))] [] (wr σ 31 0 0) Q := by
    intro jo hjo hok _
    have hjo2 : jo < 2 := by omega
    suffices H : ∀ r f (τ : Mem), r + f = k → (∀ a, a ≠ 31 → a ≠ 32 → a ≠ 33 → τ a = σ a) → PlAt τ 31 V (if jo = 0 ∧ pl / 2 < f then f + 1 else f) (nB B j pl) →
        E G MX1_becomeWith (d + 3) 59 [some (.ref 31), some (.ref 1), some (.ref 28), some (.int (nI j)), some (.int (nI pl)), some (.int (nI (pl / 2))), some (.int (nI jo)), some (.int (nI f))] [] τ Q by
      refine H k 0 _ (by omega) (fun a h1 h2 h3 => by rw [wr_o h1]) ?_
      rw [if_neg (by omega)]
      exact clear_at
    intro r
    induction r with
    | zero =>
      intro f τ hrf hfr hPn
      obtain rfl : f = k := by omega
      have hs' : ShAt τ 1 V := hs.fr (fun a _ _ => hfr a (by omega) (by omega) (by omega))
      have hP' : PlAt τ 28 V f B := hP.fr (fun a _ _ => hfr a (by omega) (by omega) (by omega))
      apply kX1_becomeWith_59
      simp (disch := omega) only [ia1, ia2, ia3, ia4, inn, inm, i10, i01, i0n, i1n, i0m, i1m, o_push, o_iload, o_aload, o_istore, o_iinc, o_iadd, o_isub, o_imul, o_iand, o_ior, o_ixor, o_ishl, o_ishr, o_iushr, o_idiv, o_irem, o_ineg, o_dup, o_dup2, o_pop, o_if_eq, o_if_ne, o_if_lt, o_if_ge, o_if_gt, o_if_le, o_icmp_eq, o_icmp_ne, o_icmp_lt, o_icmp_ge, o_icmp_gt, o_icmp_le, o_nonnull, o_lsw2, o_iret, o_zret, o_vret, o_cV0, o_cV1, o_cV2, o_cV3, o_cV4, o_cV5, o_cV6, o_cS1, o_cS2, o_cS3, o_cS4, lg, lset, inB, pushv, c1, okr, at_, List.replicate, true_and, and_true, true_or, or_true, eq_self, forall_const, not_true_eq_false, not_false_eq_true, forall_eq, false_implies, true_implies,  List.length_nil, List.length_cons, Nat.zero_le, Nat.reduceAdd, Nat.reduceLeDiff, gP0 isPl28, hP'.2.1, nLe, nEq, isPl31.k, n1, shl1]
      refine ⟨fun _ => ⟨fun q => ?_, fun q => ?_⟩, fun q => absurd (Nat.le_refl _) q⟩
      · rw [← n1]
        refine ht hok τ hfr ?_
        unfold nK
        by_cases h0 : jo = 0
        · rw [if_pos ⟨h0, by omega⟩] at hPn
          rw [if_pos (by omega)]
          exact hPn
        · rw [if_neg (by omega)] at hPn
          rw [if_neg (by omega)]
          exact hPn
      · have hj0 : pl % 2 = 0 := by
          rcases hok with h | h
          · exact h
          · omega
        rw [if_neg (by omega)] at hPn
        refine sp_add isSh1 isPl31 (by omega) hV hs' hPn (by omega) hp0 hp2 (fun τ2 f2 hP2 => ?_)
        simp only [ia1, ia2, ia3, ia4, inn, inm, i10, i01, i0n, i1n, i0m, i1m, o_push, o_iload, o_aload, o_istore, o_iinc, o_iadd, o_isub, o_imul, o_iand, o_ior, o_ixor, o_ishl, o_ishr, o_iushr, o_idiv, o_irem, o_ineg, o_dup, o_dup2, o_pop, o_if_eq, o_if_ne, o_if_lt, o_if_ge, o_if_gt, o_if_le, o_icmp_eq, o_icmp_ne, o_icmp_lt, o_icmp_ge, o_icmp_gt, o_icmp_le, o_nonnull, o_lsw2, o_iret, o_zret, o_vret, o_cV0, o_cV1, o_cV2, o_cV3, o_cV4, o_cV5, o_cV6, o_cS1, o_cS2, o_cS3, o_cS4, lg, lset, inB, pushv, c1, okr, at_, List.replicate, true_and, and_true, true_or, or_true, eq_self, forall_const, not_true_eq_false, not_false_eq_true, forall_eq, false_implies, true_implies,  List.length_nil, List.length_cons, Nat.zero_le, Nat.reduceAdd, Nat.reduceLeDiff]
        refine ht hok τ2 (fun a h1 h2 h3 => by rw [f2 a h1 h2 h3]; exact hfr a h1 h2 h3) ?_
        rw [nK, if_pos hj0]
        refine hP2.snoc ?_
        unfold nB
        rw [if_pos hj0, insB, if_neg (by omega), if_pos (by omega)]
    | succ r ih =>
      intro f τ hrf hfr hPn
      have hs' : ShAt τ 1 V := hs.fr (fun a _ _ => hfr a (by omega) (by omega) (by omega))
      have hP' : PlAt τ 28 V k B := hP.fr (fun a _ _ => hfr a (by omega) (by omega) (by omega))
      have hBf := (hP.2.2 f (by omega)).2.2
      -- behind the single batch: add batch f (with the job or without)
      have nxt : ∀ (τ : Mem), (∀ a, a ≠ 31 → a ≠ 32 → a ≠ 33 → τ a = σ a) → PlAt τ 31 V (if jo = 0 ∧ pl / 2 < f + 1 then f + 1 else f) (nB B j pl) →
          E G MX1_becomeWith (d + 3) 88 [some (.ref 31), some (.ref 1), some (.ref 28), some (.int (nI j)), some (.int (nI pl)), some (.int (nI (pl / 2))), some (.int (nI jo)), some (.int (nI f))] [] τ Q := by
        intro τ hfr hPn
        have hs' : ShAt τ 1 V := hs.fr (fun a _ _ => hfr a (by omega) (by omega) (by omega))
        have hP' : PlAt τ 28 V k B := hP.fr (fun a _ _ => hfr a (by omega) (by omega) (by omega))
        have plain : ¬ (f = pl / 2 ∧ jo = 1) → E G MX1_add (d + 2) 0 [some (.ref 31), some (.ref 1), some (.int (nI (B f))), none] [] τ (fun v τ => v = none ∧ E G MX1_becomeWith (d + 3) 59 [some (.ref 31), some (.ref 1), some (.ref 28), some (.int (nI j)), some (.int (nI pl)), some (.int (nI (pl / 2))), some (.int (nI jo)), some (.int (nI (f + 1)))] [] τ Q) := by
          intro hne
          refine sp_add isSh1 isPl31 (by omega) hV hs' hPn (by split <;> omega) (hB0 f (by omega)) hBf (fun τ2 f2 hP2 => ⟨rfl, ?_⟩)
          refine ih (f + 1) τ2 (by omega) (fun a h1 h2 h3 => by rw [f2 a h1 h2 h3]; exact hfr a h1 h2 h3) ?_
          have ek : (if jo = 0 ∧ pl / 2 < f + 1 then f + 1 + 1 else f + 1) = (if jo = 0 ∧ pl / 2 < f + 1 then f + 1 else f) + 1 := by split <;> rfl
          rw [ek]
          refine hP2.snoc ?_
          generalize hc : (if jo = 0 ∧ pl / 2 < f + 1 then f + 1 else f) = c
          unfold nB
          by_cases hm : pl % 2 = 0
          · rw [if_pos hm]
            unfold insB
            by_cases hz : pl / 2 < f + 1
            · rw [if_pos (by omega)] at hc
              rw [if_neg (by omega), if_neg (by omega)]
              congr 1; omega
            · rw [if_neg (by omega)] at hc
              rw [if_pos (by omega), hc]
          · rw [if_neg hm]
            rw [if_neg (by omega)] at hc
            unfold upN
            rw [if_neg (by omega), hc]
        apply kX1_becomeWith_88
        simp (disch := omega) only [ia1, ia2, ia3, ia4, inn, inm, i10, i01, i0n, i1n, i0m, i1m, o_push, o_iload, o_aload, o_istore, o_iinc, o_iadd, o_isub, o_imul, o_iand, o_ior, o_ixor, o_ishl, o_ishr, o_iushr, o_idiv, o_irem, o_ineg, o_dup, o_dup2, o_pop, o_if_eq, o_if_ne, o_if_lt, o_if_ge, o_if_gt, o_if_le, o_icmp_eq, o_icmp_ne, o_icmp_lt, o_icmp_ge, o_icmp_gt, o_icmp_le, o_nonnull, o_lsw2, o_iret, o_zret, o_vret, o_cV0, o_cV1, o_cV2, o_cV3, o_cV4, o_cV5, o_cV6, o_cS1, o_cS2, o_cS3, o_cS4, lg, lset, inB, pushv, c1, okr, at_, List.replicate, true_and, and_true, true_or, or_true, eq_self, forall_const, not_true_eq_false, not_false_eq_true, forall_eq, false_implies, true_implies,  List.length_nil, List.length_cons, Nat.zero_le, Nat.reduceAdd, Nat.reduceLeDiff, gP1 isPl28, hP'.b, ld7 isPl28.2.1, nEq, isPl31.k, n1, n0, shl1, fa_or, nI_add]
        refine ⟨fun q => ?_, fun q => ⟨fun q2 => ?_, fun q2 => ?_⟩⟩
        · exact (plain (by omega)).mono (fun v τ hv => by obtain ⟨rfl, hv⟩ := hv; simp only [ia1, ia2, ia3, ia4, inn, inm, i10, i01, i0n, i1n, i0m, i1m, o_push, o_iload, o_aload, o_istore, o_iinc, o_iadd, o_isub, o_imul, o_iand, o_ior, o_ixor, o_ishl, o_ishr, o_iushr, o_idiv, o_irem, o_ineg, o_dup, o_dup2, o_pop, o_if_eq, o_if_ne, o_if_lt, o_if_ge, o_if_gt, o_if_le, o_icmp_eq, o_icmp_ne, o_icmp_lt, o_icmp_ge, o_icmp_gt, o_icmp_le, o_nonnull, o_lsw2, o_iret, o_zret, o_vret, o_cV0, o_cV1, o_cV2, o_cV3, o_cV4, o_cV5, o_cV6, o_cS1, o_cS2, o_cS3, o_cS4, lg, lset, inB, pushv, c1, okr, at_, List.replicate, true_and, and_true, true_or, or_true, eq_self, forall_const, not_true_eq_false, not_false_eq_true, forall_eq, false_implies, true_implies,  List.length_nil, List.length_cons, Nat.zero_le, Nat.reduceAdd, Nat.reduceLeDiff, n1, nI_add]; exact hv)
        · exact (plain (by omega)).mono (fun v τ hv => by obtain ⟨rfl, hv⟩ := hv; simp only [ia1, ia2, ia3, ia4, inn, inm, i10, i01, i0n, i1n, i0m, i1m, o_push, o_iload, o_aload, o_istore, o_iinc, o_iadd, o_isub, o_imul, o_iand, o_ior, o_ixor, o_ishl, o_ishr, o_iushr, o_idiv, o_irem, o_ineg, o_dup, o_dup2, o_pop, o_if_eq, o_if_ne, o_if_lt, o_if_ge, o_if_gt, o_if_le, o_icmp_eq, o_icmp_ne, o_icmp_lt, o_icmp_ge, o_icmp_gt, o_icmp_le, o_nonnull, o_lsw2, o_iret, o_zret, o_vret, o_cV0, o_cV1, o_cV2, o_cV3, o_cV4, o_cV5, o_cV6, o_cS1, o_cS2, o_cS3, o_cS4, lg, lset, inB, pushv, c1, okr, at_, List.replicate, true_and, and_true, true_or, or_true, eq_self, forall_const, not_true_eq_false, not_false_eq_true, forall_eq, false_implies, true_implies,  List.length_nil, List.length_cons, Nat.zero_le, Nat.reduceAdd, Nat.reduceLeDiff, n1, nI_add]; exact hv)
        · rw [if_neg (by omega)] at hPn
          refine sp_add isSh1 isPl31 (by omega) hV hs' hPn (by omega) ?_ (Nat.or_lt_two_pow (n := 7) hBf hp2) (fun τ2 f2 hP2 => ?_)
          · intro z
            have z2 : B f ≤ B f ||| 2 ^ j := Nat.left_le_or
            rw [z] at z2
            exact hB0 f (by omega) (Nat.le_zero.mp z2)
          simp only [ia1, ia2, ia3, ia4, inn, inm, i10, i01, i0n, i1n, i0m, i1m, o_push, o_iload, o_aload, o_istore, o_iinc, o_iadd, o_isub, o_imul, o_iand, o_ior, o_ixor, o_ishl, o_ishr, o_iushr, o_idiv, o_irem, o_ineg, o_dup, o_dup2, o_pop, o_if_eq, o_if_ne, o_if_lt, o_if_ge, o_if_gt, o_if_le, o_icmp_eq, o_icmp_ne, o_icmp_lt, o_icmp_ge, o_icmp_gt, o_icmp_le, o_nonnull, o_lsw2, o_iret, o_zret, o_vret, o_cV0, o_cV1, o_cV2, o_cV3, o_cV4, o_cV5, o_cV6, o_cS1, o_cS2, o_cS3, o_cS4, lg, lset, inB, pushv, c1, okr, at_, List.replicate, true_and, and_true, true_or, or_true, eq_self, forall_const, not_true_eq_false, not_false_eq_true, forall_eq, false_implies, true_implies,  List.length_nil, List.length_cons, Nat.zero_le, Nat.reduceAdd, Nat.reduceLeDiff, n1, nI_add]
          refine ih (f + 1) τ2 (by omega) (fun a h1 h2 h3 => by rw [f2 a h1 h2 h3]; exact hfr a h1 h2 h3) ?_
          rw [if_neg (by omega)]
          refine hP2.snoc ?_
          unfold nB
          rw [if_neg (by omega)]
          unfold upN
          rw [if_pos q, q]
      apply kX1_becomeWith_59
      simp (disch := omega) only [ia1, ia2, ia3, ia4, inn, inm, i10, i01, i0n, i1n, i0m, i1m, o_push, o_iload, o_aload, o_istore, o_iinc, o_iadd, o_isub, o_imul, o_iand, o_ior, o_ixor, o_ishl, o_ishr, o_iushr, o_idiv, o_irem, o_ineg, o_dup, o_dup2, o_pop, o_if_eq, o_if_ne, o_if_lt, o_if_ge, o_if_gt, o_if_le, o_icmp_eq, o_icmp_ne, o_icmp_lt, o_icmp_ge, o_icmp_gt, o_icmp_le, o_nonnull, o_lsw2, o_iret, o_zret, o_vret, o_cV0, o_cV1, o_cV2, o_cV3, o_cV4, o_cV5, o_cV6, o_cS1, o_cS2, o_cS3, o_cS4, lg, lset, inB, pushv, c1, okr, at_, List.replicate, true_and, and_true, true_or, or_true, eq_self, forall_const, not_true_eq_false, not_false_eq_true, forall_eq, false_implies, true_implies,  List.length_nil, List.length_cons, Nat.zero_le, Nat.reduceAdd, Nat.reduceLeDiff, gP0 isPl28, hP'.2.1, nLe, nEq, isPl31.k, n1, n0, shl1]
      refine ⟨fun q => absurd q (by omega), fun _ => ⟨fun q => ?_, fun q => ⟨fun q2 => ?_, fun q2 => ?_⟩⟩⟩
      · refine nxt τ hfr ?_
        by_cases hz : jo = 0 ∧ pl / 2 < f
        · rw [if_pos hz] at hPn
          rw [if_pos ⟨hz.1, by omega⟩]
          exact hPn
        · rw [if_neg hz] at hPn
          rw [if_neg (by omega)]
          exact hPn
      · refine nxt τ hfr ?_
        rw [if_neg (by omega)] at hPn
        rw [if_neg (by omega)]
        exact hPn
      · rw [if_neg (by omega)] at hPn
        refine sp_add isSh1 isPl31 (by omega) hV hs' hPn (by omega) hp0 hp2 (fun τ2 f2 hP2 => ?_)
        simp only [ia1, ia2, ia3, ia4, inn, inm, i10, i01, i0n, i1n, i0m, i1m, o_push, o_iload, o_aload, o_istore, o_iinc, o_iadd, o_isub, o_imul, o_iand, o_ior, o_ixor, o_ishl, o_ishr, o_iushr, o_idiv, o_irem, o_ineg, o_dup, o_dup2, o_pop, o_if_eq, o_if_ne, o_if_lt, o_if_ge, o_if_gt, o_if_le, o_icmp_eq, o_icmp_ne, o_icmp_lt, o_icmp_ge, o_icmp_gt, o_icmp_le, o_nonnull, o_lsw2, o_iret, o_zret, o_vret, o_cV0, o_cV1, o_cV2, o_cV3, o_cV4, o_cV5, o_cV6, o_cS1, o_cS2, o_cS3, o_cS4, lg, lset, inB, pushv, c1, okr, at_, List.replicate, true_and, and_true, true_or, or_true, eq_self, forall_const, not_true_eq_false, not_false_eq_true, forall_eq, false_implies, true_implies,  List.length_nil, List.length_cons, Nat.zero_le, Nat.reduceAdd, Nat.reduceLeDiff]
        refine nxt τ2 (fun a h1 h2 h3 => by rw [f2 a h1 h2 h3]; exact hfr a h1 h2 h3) ?_
        rw [if_pos (by omega)]
        refine hP2.snoc ?_
        unfold nB
        rw [if_pos (show pl % 2 = 0 by omega), insB, if_neg (by omega), if_pos (by omega)]
  -- behind the test of the place
  have mid : E G MX1_becomeWith (d + 3) 19 [some (.ref 31), some (.ref 1), some (.ref 28), some (.int (nI j)), some (.int (nI pl)), some (.int (nI (pl / 2))), none, none] [.int (nI (pl % 2))] σ Q := by
    apply kX1_becomeWith_19
    simp (disch := omega) only [ia1, ia2, ia3, ia4, inn, inm, i10, i01, i0n, i1n, i0m, i1m, o_push, o_iload, o_aload, o_istore, o_iinc, o_iadd, o_isub, o_imul, o_iand, o_ior, o_ixor, o_ishl, o_ishr, o_iushr, o_idiv, o_irem, o_ineg, o_dup, o_dup2, o_pop, o_if_eq, o_if_ne, o_if_lt, o_if_ge, o_if_gt, o_if_le, o_icmp_eq, o_icmp_ne, o_icmp_lt, o_icmp_ge, o_icmp_gt, o_icmp_le, o_nonnull, o_lsw2, o_iret, o_zret, o_vret, o_cV0, o_cV1, o_cV2, o_cV3, o_cV4, o_cV5, o_cV6, o_cS1, o_cS2, o_cS3, o_cS4, lg, lset, inB, pushv, c1, okr, at_, List.replicate, true_and, and_true, true_or, or_true, eq_self, forall_const, not_true_eq_false, not_false_eq_true, forall_eq, false_implies, true_implies,  List.length_nil, List.length_cons, Nat.zero_le, Nat.reduceAdd, Nat.reduceLeDiff, gP0 isPl28, gP1 isPl28, hP.2.1, nLe, nEq, isPl31.k, isSh1.k, n0]
    refine ⟨fun q => ?_, fun q => ⟨fun q2 => ?_, fun q2 => ?_⟩⟩
    · refine sp_clear isPl31 ?_
      simp only [ia1, ia2, ia3, ia4, inn, inm, i10, i01, i0n, i1n, i0m, i1m, o_push, o_iload, o_aload, o_istore, o_iinc, o_iadd, o_isub, o_imul, o_iand, o_ior, o_ixor, o_ishl, o_ishr, o_iushr, o_idiv, o_irem, o_ineg, o_dup, o_dup2, o_pop, o_if_eq, o_if_ne, o_if_lt, o_if_ge, o_if_gt, o_if_le, o_icmp_eq, o_icmp_ne, o_icmp_lt, o_icmp_ge, o_icmp_gt, o_icmp_le, o_nonnull, o_lsw2, o_iret, o_zret, o_vret, o_cV0, o_cV1, o_cV2, o_cV3, o_cV4, o_cV5, o_cV6, o_cS1, o_cS2, o_cS3, o_cS4, lg, lset, inB, pushv, c1, okr, at_, List.replicate, true_and, and_true, true_or, or_true, eq_self, forall_const, not_true_eq_false, not_false_eq_true, forall_eq, false_implies, true_implies,  List.length_nil, List.length_cons, Nat.zero_le, Nat.reduceAdd, Nat.reduceLeDiff, n0]
      exact loop _ rfl (Or.inl q) none
    · rw [← n0]
      exact hf (fun z => by rcases z with z | z <;> omega)
    · have hBf := (hP.2.2 (pl / 2) (by omega)).2.2
      simp (disch := omega) only [ia1, ia2, ia3, ia4, inn, inm, i10, i01, i0n, i1n, i0m, i1m, o_push, o_iload, o_aload, o_istore, o_iinc, o_iadd, o_isub, o_imul, o_iand, o_ior, o_ixor, o_ishl, o_ishr, o_iushr, o_idiv, o_irem, o_ineg, o_dup, o_dup2, o_pop, o_if_eq, o_if_ne, o_if_lt, o_if_ge, o_if_gt, o_if_le, o_icmp_eq, o_icmp_ne, o_icmp_lt, o_icmp_ge, o_icmp_gt, o_icmp_le, o_nonnull, o_lsw2, o_iret, o_zret, o_vret, o_cV0, o_cV1, o_cV2, o_cV3, o_cV4, o_cV5, o_cV6, o_cS1, o_cS2, o_cS3, o_cS4, lg, lset, inB, pushv, c1, okr, at_, List.replicate, true_and, and_true, true_or, or_true, eq_self, forall_const, not_true_eq_false, not_false_eq_true, forall_eq, false_implies, true_implies,  List.length_nil, List.length_cons, Nat.zero_le, Nat.reduceAdd, Nat.reduceLeDiff, ld7 isPl28.2.1, hP.b, isPl31.k, isSh1.k, n0]
      refine sp_fits hj hBf isSh1 hV hs (fun z => ?_) (fun z => ?_)
      · simp only [ia1, ia2, ia3, ia4, inn, inm, i10, i01, i0n, i1n, i0m, i1m, o_push, o_iload, o_aload, o_istore, o_iinc, o_iadd, o_isub, o_imul, o_iand, o_ior, o_ixor, o_ishl, o_ishr, o_iushr, o_idiv, o_irem, o_ineg, o_dup, o_dup2, o_pop, o_if_eq, o_if_ne, o_if_lt, o_if_ge, o_if_gt, o_if_le, o_icmp_eq, o_icmp_ne, o_icmp_lt, o_icmp_ge, o_icmp_gt, o_icmp_le, o_nonnull, o_lsw2, o_iret, o_zret, o_vret, o_cV0, o_cV1, o_cV2, o_cV3, o_cV4, o_cV5, o_cV6, o_cS1, o_cS2, o_cS3, o_cS4, lg, lset, inB, pushv, c1, okr, at_, List.replicate, true_and, and_true, true_or, or_true, eq_self, forall_const, not_true_eq_false, not_false_eq_true, forall_eq, false_implies, true_implies,  List.length_nil, List.length_cons, Nat.zero_le, Nat.reduceAdd, Nat.reduceLeDiff, isPl31.k]
        refine sp_clear isPl31 ?_
        simp only [ia1, ia2, ia3, ia4, inn, inm, i10, i01, i0n, i1n, i0m, i1m, o_push, o_iload, o_aload, o_istore, o_iinc, o_iadd, o_isub, o_imul, o_iand, o_ior, o_ixor, o_ishl, o_ishr, o_iushr, o_idiv, o_irem, o_ineg, o_dup, o_dup2, o_pop, o_if_eq, o_if_ne, o_if_lt, o_if_ge, o_if_gt, o_if_le, o_icmp_eq, o_icmp_ne, o_icmp_lt, o_icmp_ge, o_icmp_gt, o_icmp_le, o_nonnull, o_lsw2, o_iret, o_zret, o_vret, o_cV0, o_cV1, o_cV2, o_cV3, o_cV4, o_cV5, o_cV6, o_cS1, o_cS2, o_cS3, o_cS4, lg, lset, inB, pushv, c1, okr, at_, List.replicate, true_and, and_true, true_or, or_true, eq_self, forall_const, not_true_eq_false, not_false_eq_true, forall_eq, false_implies, true_implies,  List.length_nil, List.length_cons, Nat.zero_le, Nat.reduceAdd, Nat.reduceLeDiff, n0]
        exact loop _ rfl (Or.inr ⟨by omega, z.1, z.2⟩) none
      · simp only [ia1, ia2, ia3, ia4, inn, inm, i10, i01, i0n, i1n, i0m, i1m, o_push, o_iload, o_aload, o_istore, o_iinc, o_iadd, o_isub, o_imul, o_iand, o_ior, o_ixor, o_ishl, o_ishr, o_iushr, o_idiv, o_irem, o_ineg, o_dup, o_dup2, o_pop, o_if_eq, o_if_ne, o_if_lt, o_if_ge, o_if_gt, o_if_le, o_icmp_eq, o_icmp_ne, o_icmp_lt, o_icmp_ge, o_icmp_gt, o_icmp_le, o_nonnull, o_lsw2, o_iret, o_zret, o_vret, o_cV0, o_cV1, o_cV2, o_cV3, o_cV4, o_cV5, o_cV6, o_cS1, o_cS2, o_cS3, o_cS4, lg, lset, inB, pushv, c1, okr, at_, List.replicate, true_and, and_true, true_or, or_true, eq_self, forall_const, not_true_eq_false, not_false_eq_true, forall_eq, false_implies, true_implies,  List.length_nil, List.length_cons, Nat.zero_le, Nat.reduceAdd, Nat.reduceLeDiff]
        rw [← n0]
        exact hf (fun w => by
          rcases w with w | w
          · exact q w
          · exact z ⟨w.2.1, w.2.2⟩)
  apply kX1_becomeWith_0
  simp (disch := omega) only [ia1, ia2, ia3, ia4, inn, inm, i10, i01, i0n, i1n, i0m, i1m, o_push, o_iload, o_aload, o_istore, o_iinc, o_iadd, o_isub, o_imul, o_iand, o_ior, o_ixor, o_ishl, o_ishr, o_iushr, o_idiv, o_irem, o_ineg, o_dup, o_dup2, o_pop, o_if_eq, o_if_ne, o_if_lt, o_if_ge, o_if_gt, o_if_le, o_icmp_eq, o_icmp_ne, o_icmp_lt, o_icmp_ge, o_icmp_gt, o_icmp_le, o_nonnull, o_lsw2, o_iret, o_zret, o_vret, o_cV0, o_cV1, o_cV2, o_cV3, o_cV4, o_cV5, o_cV6, o_cS1, o_cS2, o_cS3, o_cS4, lg, lset, inB, pushv, c1, okr, at_, List.replicate, true_and, and_true, true_or, or_true, eq_self, forall_const, not_true_eq_false, not_false_eq_true, forall_eq, false_implies, true_implies,  List.length_nil, List.length_cons, Nat.zero_le, Nat.reduceAdd, Nat.reduceLeDiff, n2, ndiv2, n1, n0]
  refine ⟨nI_ne0 (by omega) (by omega), nI_ne0 (by omega) (by omega), ?_⟩
  have hr : nI pl - nI (pl / 2) * nI 2 = nI (pl % 2) := by rw [← ndiv2 (by omega)]; exact nrem2 (by omega)
  rw [hr]
  simp (disch := omega) only [nEq]
  refine ⟨fun q => ?_, fun q => ?_⟩
  · rw [show pl % 2 = 0 by omega] at mid; exact mid
  · rw [q] at mid; exact mid
theorem sp_putIn {j w : Nat} (hw : w < 2) (hj : j < 7) (hk : k < 7) (hV : VOk V) (hs : ShAt σ 1 V) (hP : PlAt σ 28 V k B) (hB0 : ∀ i, i < k → B i ≠ 0)
    (h : ∀ τ, (∀ a, a ≠ 31 → a ≠ 32 → a ≠ 33 → τ a = σ a) → Q (some (.int (if w = 0 then nI (putR V k B j (2 * k + 1)).1 else nI (putR V k B j (2 * k + 1)).2))) τ) :
    E G MX4_putIn (d + 4) 0 [some (.ref 0), some (.int (nI j)), some (.int (nI w)), none, none, none, none] [] σ Q := by
  apply kX4_putIn_0
  simp only [ia1, ia2, ia3, ia4, inn, inm, i10, i01, i0n, i1n, i0m, i1m, o_push, o_iload, o_aload, o_istore, o_iinc, o_iadd, o_isub, o_imul, o_iand, o_ior, o_ixor, o_ishl, o_ishr, o_iushr, o_idiv, o_irem, o_ineg, o_dup, o_dup2, o_pop, o_if_eq, o_if_ne, o_if_lt, o_if_ge, o_if_gt, o_if_le, o_icmp_eq, o_icmp_ne, o_icmp_lt, o_icmp_ge, o_icmp_gt, o_icmp_le, o_nonnull, o_lsw2, o_iret, o_zret, o_vret, o_cV0, o_cV1, o_cV2, o_cV3, o_cV4, o_cV5, o_cV6, o_cS1, o_cS2, o_cS3, o_cS4, lg, lset, inB, pushv, c1, okr, at_, List.replicate, true_and, and_true, true_or, or_true, eq_self, forall_const, not_true_eq_false, not_false_eq_true, forall_eq, false_implies, true_implies,  List.length_nil, List.length_cons, Nat.zero_le, Nat.reduceAdd, Nat.reduceLeDiff, nmax, n0]
  suffices H : ∀ r pl (τ : Mem) (x : Option Value), r + pl = 2 * k + 1 → (∀ a, a ≠ 31 → a ≠ 32 → a ≠ 33 → τ a = σ a) →
      E G MX4_putIn (d + 4) 9 [some (.ref 0), some (.int (nI j)), some (.int (nI w)), some (.int (nI (putR V k B j pl).1)), some (.int (nI (putR V k B j pl).2)), some (.int (nI pl)), x] [] τ Q from H (2 * k + 1) 0 σ _ (by omega) (fun _ _ _ _ => rfl)
  intro r
  induction r with
  | zero =>
    intro pl τ x hr hfr
    obtain rfl : pl = 2 * k + 1 := by omega
    have hP' : PlAt τ 28 V k B := hP.fr (fun a _ _ => hfr a (by omega) (by omega) (by omega))
    apply kX4_putIn_9
    simp (disch := omega) only [ia1, ia2, ia3, ia4, inn, inm, i10, i01, i0n, i1n, i0m, i1m, o_push, o_iload, o_aload, o_istore, o_iinc, o_iadd, o_isub, o_imul, o_iand, o_ior, o_ixor, o_ishl, o_ishr, o_iushr, o_idiv, o_irem, o_ineg, o_dup, o_dup2, o_pop, o_if_eq, o_if_ne, o_if_lt, o_if_ge, o_if_gt, o_if_le, o_icmp_eq, o_icmp_ne, o_icmp_lt, o_icmp_ge, o_icmp_gt, o_icmp_le, o_nonnull, o_lsw2, o_iret, o_zret, o_vret, o_cV0, o_cV1, o_cV2, o_cV3, o_cV4, o_cV5, o_cV6, o_cS1, o_cS2, o_cS3, o_cS4, lg, lset, inB, pushv, c1, okr, at_, List.replicate, true_and, and_true, true_or, or_true, eq_self, forall_const, not_true_eq_false, not_false_eq_true, forall_eq, false_implies, true_implies,  List.length_nil, List.length_cons, Nat.zero_le, Nat.reduceAdd, Nat.reduceLeDiff, gH5, gP0 isPl28, hP'.2.1, n2, pk_mul, nLt, n0, nEq]
    have := h τ hfr
    refine ⟨fun _ => ⟨fun q => ?_, fun q => ?_⟩, fun q => absurd (by omega) q⟩
    · rw [if_pos q] at this; exact this
    · rw [if_neg q] at this; exact this
  | succ r ih =>
    intro pl τ x hr hfr
    have hs' : ShAt τ 1 V := hs.fr (fun a _ _ => hfr a (by omega) (by omega) (by omega))
    have hP' : PlAt τ 28 V k B := hP.fr (fun a _ _ => hfr a (by omega) (by omega) (by omega))
    have hl := putR_lt (V := V) (k := k) (B := B) (j := j) pl
    have hnk : nK k pl ≤ 7 := by unfold nK; split <;> omega
    have hms := msR_le (m := 1) (B := nB B j pl) hV (nK k pl) hnk
    have hms2 : msR 1 V (nB B j pl) (nK k pl) < 2 ^ 31 := Nat.lt_of_le_of_lt hms (Nat.lt_of_le_of_lt (Nat.mul_le_mul_right 2400 hnk) (by decide))
    apply kX4_putIn_9
    simp (disch := omega) only [ia1, ia2, ia3, ia4, inn, inm, i10, i01, i0n, i1n, i0m, i1m, o_push, o_iload, o_aload, o_istore, o_iinc, o_iadd, o_isub, o_imul, o_iand, o_ior, o_ixor, o_ishl, o_ishr, o_iushr, o_idiv, o_irem, o_ineg, o_dup, o_dup2, o_pop, o_if_eq, o_if_ne, o_if_lt, o_if_ge, o_if_gt, o_if_le, o_icmp_eq, o_icmp_ne, o_icmp_lt, o_icmp_ge, o_icmp_gt, o_icmp_le, o_nonnull, o_lsw2, o_iret, o_zret, o_vret, o_cV0, o_cV1, o_cV2, o_cV3, o_cV4, o_cV5, o_cV6, o_cS1, o_cS2, o_cS3, o_cS4, lg, lset, inB, pushv, c1, okr, at_, List.replicate, true_and, and_true, true_or, or_true, eq_self, forall_const, not_true_eq_false, not_false_eq_true, forall_eq, false_implies, true_implies,  List.length_nil, List.length_cons, Nat.zero_le, Nat.reduceAdd, Nat.reduceLeDiff, gH5, gH6, gH0, gP0 isPl28, hP'.2.1, n2, pk_mul, nLt, isPl31.k]
    refine ⟨fun q => absurd q (by omega), fun _ => sp_becomeWith hj (by omega) hk hV hs' hP' hB0 (fun hok τ2 f2 hP2 => ?_) (fun hok => ?_)⟩
    · have hs2 : ShAt τ2 1 V := hs'.fr (fun a _ _ => f2 a (by omega) (by omega) (by omega))
      have fr2 : ∀ a, a ≠ 31 → a ≠ 32 → a ≠ 33 → τ2 a = σ a := fun a h1 h2 h3 => by rw [f2 a h1 h2 h3]; exact hfr a h1 h2 h3
      have nx := fun y => ih (pl + 1) τ2 y (by omega) fr2
      simp only [ia1, ia2, ia3, ia4, inn, inm, i10, i01, i0n, i1n, i0m, i1m, o_push, o_iload, o_aload, o_istore, o_iinc, o_iadd, o_isub, o_imul, o_iand, o_ior, o_ixor, o_ishl, o_ishr, o_iushr, o_idiv, o_irem, o_ineg, o_dup, o_dup2, o_pop, o_if_eq, o_if_ne, o_if_lt, o_if_ge, o_if_gt, o_if_le, o_icmp_eq, o_icmp_ne, o_icmp_lt, o_icmp_ge, o_icmp_gt, o_icmp_le, o_nonnull, o_lsw2, o_iret, o_zret, o_vret, o_cV0, o_cV1, o_cV2, o_cV3, o_cV4, o_cV5, o_cV6, o_cS1, o_cS2, o_cS3, o_cS4, lg, lset, inB, pushv, c1, okr, at_, List.replicate, true_and, and_true, true_or, or_true, eq_self, forall_const, not_true_eq_false, not_false_eq_true, forall_eq, false_implies, true_implies,  List.length_nil, List.length_cons, Nat.zero_le, Nat.reduceAdd, Nat.reduceLeDiff, gH6, gH0, isPl31.k, n1]
      refine sp_measured (m := 1) (by decide) isSh1 isPl31 hV hs2 hP2 ?_
      rw [show meas 1 V (nK k pl) (nB B j pl) = msR 1 V (nB B j pl) (nK k pl) from rfl]
      simp (disch := omega) only [ia1, ia2, ia3, ia4, inn, inm, i10, i01, i0n, i1n, i0m, i1m, o_push, o_iload, o_aload, o_istore, o_iinc, o_iadd, o_isub, o_imul, o_iand, o_ior, o_ixor, o_ishl, o_ishr, o_iushr, o_idiv, o_irem, o_ineg, o_dup, o_dup2, o_pop, o_if_eq, o_if_ne, o_if_lt, o_if_ge, o_if_gt, o_if_le, o_icmp_eq, o_icmp_ne, o_icmp_lt, o_icmp_ge, o_icmp_gt, o_icmp_le, o_nonnull, o_lsw2, o_iret, o_zret, o_vret, o_cV0, o_cV1, o_cV2, o_cV3, o_cV4, o_cV5, o_cV6, o_cS1, o_cS2, o_cS3, o_cS4, lg, lset, inB, pushv, c1, okr, at_, List.replicate, true_and, and_true, true_or, or_true, eq_self, forall_const, not_true_eq_false, not_false_eq_true, forall_eq, false_implies, true_implies,  List.length_nil, List.length_cons, Nat.zero_le, Nat.reduceAdd, Nat.reduceLeDiff, n1, nI_add, nLe]
      refine ⟨fun q => ?_, fun q => ?_⟩
      · rw [putR, if_neg (by omega)] at nx; exact nx _
      · rw [putR, if_pos ⟨hok, by omega⟩] at nx; exact nx _
    · have nx := fun y => ih (pl + 1) τ y (by omega) hfr
      rw [putR, if_neg (fun z => hok z.1)] at nx
      simp only [ia1, ia2, ia3, ia4, inn, inm, i10, i01, i0n, i1n, i0m, i1m, o_push, o_iload, o_aload, o_istore, o_iinc, o_iadd, o_isub, o_imul, o_iand, o_ior, o_ixor, o_ishl, o_ishr, o_iushr, o_idiv, o_irem, o_ineg, o_dup, o_dup2, o_pop, o_if_eq, o_if_ne, o_if_lt, o_if_ge, o_if_gt, o_if_le, o_icmp_eq, o_icmp_ne, o_icmp_lt, o_icmp_ge, o_icmp_gt, o_icmp_le, o_nonnull, o_lsw2, o_iret, o_zret, o_vret, o_cV0, o_cV1, o_cV2, o_cV3, o_cV4, o_cV5, o_cV6, o_cS1, o_cS2, o_cS3, o_cS4, lg, lset, inB, pushv, c1, okr, at_, List.replicate, true_and, and_true, true_or, or_true, eq_self, forall_const, not_true_eq_false, not_false_eq_true, forall_eq, false_implies, true_implies,  List.length_nil, List.length_cons, Nat.zero_le, Nat.reduceAdd, Nat.reduceLeDiff, n1, nI_add]
      exact nx _
end PUTC
