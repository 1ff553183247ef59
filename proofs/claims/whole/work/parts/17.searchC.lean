/-! the search with its table -/
def fbw (V : Nat → Nat) (S : Nat) : Int32 := if okB V S then nI (famS V S) else -nI 1
def SInv (σ : Mem) (b m : Nat) (V : Nat → Nat) (ag : Nat) : Prop := σ 52 0 = nI b ∧ σ 52 1 = nI m ∧ σ 52 4 = nI ag ∧ 1 ≤ ag ∧ ag ≤ 8191 ∧ (∀ S, S < 2 ^ V 9 → S ≠ 0 → σ 53 S = fbw V S) ∧
  ∀ i, i < 2048 → ∃ x, σ 55 i = nI x ∧ x < 2147483648 ∧ x / 262144 ≤ ag ∧ (x / 262144 = ag → σ 56 i = nI (LL m V (x / 2048 % 128) (x / 512 % 4) (x % 512)))
/-- before a search: keys of earlier ages alone -/
def KOld (σ : Mem) (ag : Nat) : Prop := σ 52 4 = nI ag ∧ ag ≤ 8191 ∧ ∀ i, i < 2048 → ∃ x, σ 55 i = nI x ∧ x < 2147483648 ∧ x / 262144 ≤ ag
theorem SInv.old {σ : Mem} {b m ag : Nat} {V : Nat → Nat} (h : SInv σ b m V ag) : KOld σ ag := ⟨h.2.2.1, h.2.2.2.2.1, fun i hi => by obtain ⟨x, h1, h2, h3, -⟩ := h.2.2.2.2.2.2 i hi; exact ⟨x, h1, h2, h3⟩⟩
theorem nextS : ∀ l, l < 128 → ∀ b, b < 128 → b &&& l = b → ∀ s, s < b → s &&& l = s → s ≤ (b - 1) &&& l := by decide +kernel
def keyN (ag left g t : Nat) : Nat := ((ag * 128 + left) * 4 + g) * 512 + t
theorem or_add {a b k : Nat} (h : b < 2 ^ k) : a * 2 ^ k ||| b = a * 2 ^ k + b := by
  rw [← Nat.shiftLeft_eq, Nat.shiftLeft_add_eq_or_of_lt h]
theorem key_eq {ag left g t : Nat} (h1 : ag ≤ 8191) (h2 : left < 128) (h3 : g < 4) (h4 : t < 512) :
    ((nI ag <<< ((7 : Int32) &&& 31) ||| nI left) <<< ((2 : Int32) &&& 31) ||| nI g) <<< ((9 : Int32) &&& 31) ||| nI t = nI (keyN ag left g t) := by
  have e1 : nI ag <<< ((7 : Int32) &&& 31) = nI (ag * 2 ^ 7) := pk_shlN _ 7 (by decide) (by omega)
  rw [e1, fa_or, or_add (k := 7) (by omega)]
  have e2 : nI (ag * 2 ^ 7 + left) <<< ((2 : Int32) &&& 31) = nI ((ag * 2 ^ 7 + left) * 2 ^ 2) := pk_shlN _ 2 (by decide) (by omega)
  rw [e2, fa_or, or_add (k := 2) (by omega)]
  have e3 : nI ((ag * 2 ^ 7 + left) * 2 ^ 2 + g) <<< ((9 : Int32) &&& 31) = nI (((ag * 2 ^ 7 + left) * 2 ^ 2 + g) * 2 ^ 9) := pk_shlN _ 9 (by decide) (by omega)
  rw [e3, fa_or, or_add (k := 9) (by omega)]
  rfl
theorem ushr21 (x : Int32) : ∃ h : Nat, h < 2048 ∧ (x.toUInt32 >>> ((21 : Int32).toUInt32 &&& Int32.toUInt32 31)).toInt32 = nI h := by
  have h1 := pk_ushr x 21 21 (by decide)
  have h2 : x.toBitVec.toNat < 2 ^ 32 := x.toBitVec.isLt
  refine ⟨x.toBitVec.toNat / 2 ^ 21, by omega, ?_⟩
  apply Int32.toBitVec_inj.1
  apply BitVec.eq_of_toNat_eq
  rw [h1, pk_tn (by omega)]
theorem sh53 : sh 53 = shI 128 := rfl
theorem sh54 : sh 54 = shI 128 := rfl
theorem sh55 : sh 55 = shI 2048 := rfl
theorem sh56 : sh 56 = shI 2048 := rfl
theorem gEs {K : Kt} {ls : Lc} {r : List Value} {σ : Mem} {b : Nat} (h : σ 52 0 = nI b) (h0 : 0 < b) (h1 : b < 67) : o_getf 2 0 K ls (.ref 52 :: r) σ = K ls (.ref b :: r) σ := by
  rw [gE0, h, if_neg (nI_ne0 h0 (by omega)), nI_clamp (by omega)]
section SEARCHC
variable {G : Gp} {d : Nat} {Q : Option Value → Mem → Prop} {σ : Mem} {b m ag : Nat} {V B : Nat → Nat}
set_option maxRecDepth 4000 in
theorem sp_bitCount {l : Nat} (hl : l < 128) (h : Q (some (.int (nI (pc l)))) σ) : E G MJ6_bitCount_0f7a4 d 0 [some (.int (nI l))] [] σ Q := by
  apply kJ6_bitCount_0f7a4_0
  simp only [ia1, ia2, ia3, ia4, inn, inm, i10, i01, i0n, i1n, i0m, i1m, o_push, o_iload, o_aload, o_istore, o_iinc, o_iadd, o_isub, o_imul, o_iand, o_ior, o_ixor, o_ishl, o_ishr, o_iushr, o_idiv, o_irem, o_ineg, o_dup, o_dup2, o_pop, o_if_eq, o_if_ne, o_if_lt, o_if_ge, o_if_gt, o_if_le, o_icmp_eq, o_icmp_ne, o_icmp_lt, o_icmp_ge, o_icmp_gt, o_icmp_le, o_nonnull, o_lsw2, o_iret, o_zret, o_vret, o_cV0, o_cV1, o_cV2, o_cV3, o_cV4, o_cV5, o_cV6, o_cS1, o_cS2, o_cS3, o_cS4, lg, lset, inB, pushv, c1, okr, at_, List.replicate, true_and, and_true, true_or, or_true, eq_self, forall_const, not_true_eq_false, not_false_eq_true, forall_eq, false_implies, true_implies,  List.length_nil, List.length_cons, Nat.zero_le, Nat.reduceAdd, Nat.reduceLeDiff]
  refine (congrArg (fun z => Q (some (.int z)) σ) ?_).mpr h
  clear h
  revert l
  decide +kernel
theorem sp_part {S t e : Nat} (hb : IsSh b) (hb0 : 0 < b) (hb1 : b < 67) (hV : VOk V) (hm : m < 4) (hS : S < 2 ^ 31) (he : e < 600) (hte : t ≤ e) (hs : ShAt σ b V) (h0 : σ 52 0 = nI b) (h1 : σ 52 1 = nI m) (h : Q (some (.int (nI (part m V S t e)))) σ) :
    E G MX2_part (d + 2) 0 [some (.ref 52), some (.int (nI S)), some (.int (nI t)), some (.int (nI e))] [] σ Q := by
  apply kX2_part_0
  simp (disch := omega) only [ia1, ia2, ia3, ia4, inn, inm, i10, i01, i0n, i1n, i0m, i1m, o_push, o_iload, o_aload, o_istore, o_iinc, o_iadd, o_isub, o_imul, o_iand, o_ior, o_ixor, o_ishl, o_ishr, o_iushr, o_idiv, o_irem, o_ineg, o_dup, o_dup2, o_pop, o_if_eq, o_if_ne, o_if_lt, o_if_ge, o_if_gt, o_if_le, o_icmp_eq, o_icmp_ne, o_icmp_lt, o_icmp_ge, o_icmp_gt, o_icmp_le, o_nonnull, o_lsw2, o_iret, o_zret, o_vret, o_cV0, o_cV1, o_cV2, o_cV3, o_cV4, o_cV5, o_cV6, o_cS1, o_cS2, o_cS3, o_cS4, lg, lset, inB, pushv, c1, okr, at_, List.replicate, true_and, and_true, true_or, or_true, eq_self, forall_const, not_true_eq_false, not_false_eq_true, forall_eq, false_implies, true_implies,  List.length_nil, List.length_cons, Nat.zero_le, Nat.reduceAdd, Nat.reduceLeDiff, gE1, h1, gEs h0 hb0 hb1, n2, n3, nEq, nSub, hb.k]
  refine ⟨fun q => ?_, fun q => ?_, fun q2 q3 => sp_late hb hm hS he hV hs ?_⟩
  · rw [part, if_pos q] at h; exact h
  · rw [part, if_neg (by omega), if_pos q] at h
    rw [n1]; exact h
  · simp only [ia1, ia2, ia3, ia4, inn, inm, i10, i01, i0n, i1n, i0m, i1m, o_push, o_iload, o_aload, o_istore, o_iinc, o_iadd, o_isub, o_imul, o_iand, o_ior, o_ixor, o_ishl, o_ishr, o_iushr, o_idiv, o_irem, o_ineg, o_dup, o_dup2, o_pop, o_if_eq, o_if_ne, o_if_lt, o_if_ge, o_if_gt, o_if_le, o_icmp_eq, o_icmp_ne, o_icmp_lt, o_icmp_ge, o_icmp_gt, o_icmp_le, o_nonnull, o_lsw2, o_iret, o_zret, o_vret, o_cV0, o_cV1, o_cV2, o_cV3, o_cV4, o_cV5, o_cV6, o_cS1, o_cS2, o_cS3, o_cS4, lg, lset, inB, pushv, c1, okr, at_, List.replicate, true_and, and_true, true_or, or_true, eq_self, forall_const, not_true_eq_false, not_false_eq_true, forall_eq, false_implies, true_implies,  List.length_nil, List.length_cons, Nat.zero_le, Nat.reduceAdd, Nat.reduceLeDiff]
    rw [part, if_neg q2, if_neg q3] at h; exact h
theorem sp_slotOf {x : Int32} (h : ∀ i, i < 2048 → Q (some (.int (nI i))) σ) : E G MX2_slotOf d 0 [some (.ref 52), some (.int x), none, none, none] [] σ Q := by
  apply kX2_slotOf_0
  simp only [ia1, ia2, ia3, ia4, inn, inm, i10, i01, i0n, i1n, i0m, i1m, o_push, o_iload, o_aload, o_istore, o_iinc, o_iadd, o_isub, o_imul, o_iand, o_ior, o_ixor, o_ishl, o_ishr, o_iushr, o_idiv, o_irem, o_ineg, o_dup, o_dup2, o_pop, o_if_eq, o_if_ne, o_if_lt, o_if_ge, o_if_gt, o_if_le, o_icmp_eq, o_icmp_ne, o_icmp_lt, o_icmp_ge, o_icmp_gt, o_icmp_le, o_nonnull, o_lsw2, o_iret, o_zret, o_vret, o_cV0, o_cV1, o_cV2, o_cV3, o_cV4, o_cV5, o_cV6, o_cS1, o_cS2, o_cS3, o_cS4, lg, lset, inB, pushv, c1, okr, at_, List.replicate, true_and, and_true, true_or, or_true, eq_self, forall_const, not_true_eq_false, not_false_eq_true, forall_eq, false_implies, true_implies,  List.length_nil, List.length_cons, Nat.zero_le, Nat.reduceAdd, Nat.reduceLeDiff]
  obtain ⟨hm, h1, h2⟩ := ushr21 (x * (-1640531535))
  rw [h2, n0]
  suffices H : ∀ k j (y : Option Value), k + j = 32 → E G MX2_slotOf d 10 [some (.ref 52), some (.int x), some (.int (nI hm)), some (.int (nI j)), y] [] σ Q from H 32 0 _ (by omega)
  have e32 : (32 : Int32) = nI 32 := by decide +kernel
  have e47 : ∀ j, j ≤ 32 → nI (hm + j) &&& 2047 = nI ((hm + j) % 2048) := fun j hj => pk_andN (by omega) 11 (by decide)
  intro k
  induction k with
  | zero =>
    intro j y hj
    apply kX2_slotOf_10
    simp (disch := omega) only [ia1, ia2, ia3, ia4, inn, inm, i10, i01, i0n, i1n, i0m, i1m, o_push, o_iload, o_aload, o_istore, o_iinc, o_iadd, o_isub, o_imul, o_iand, o_ior, o_ixor, o_ishl, o_ishr, o_iushr, o_idiv, o_irem, o_ineg, o_dup, o_dup2, o_pop, o_if_eq, o_if_ne, o_if_lt, o_if_ge, o_if_gt, o_if_le, o_icmp_eq, o_icmp_ne, o_icmp_lt, o_icmp_ge, o_icmp_gt, o_icmp_le, o_nonnull, o_lsw2, o_iret, o_zret, o_vret, o_cV0, o_cV1, o_cV2, o_cV3, o_cV4, o_cV5, o_cV6, o_cS1, o_cS2, o_cS3, o_cS4, lg, lset, inB, pushv, c1, okr, at_, List.replicate, true_and, and_true, true_or, or_true, eq_self, forall_const, not_true_eq_false, not_false_eq_true, forall_eq, false_implies, true_implies,  List.length_nil, List.length_cons, Nat.zero_le, Nat.reduceAdd, Nat.reduceLeDiff, e32, nLe]
    exact ⟨fun _ => h hm h1, fun q => absurd (by omega) q⟩
  | succ k ih =>
    intro j y hj
    have hlt : (hm + j) % 2048 < 2048 := Nat.mod_lt _ (by omega)
    apply kX2_slotOf_10
    simp (disch := omega) only [ia1, ia2, ia3, ia4, inn, inm, i10, i01, i0n, i1n, i0m, i1m, o_push, o_iload, o_aload, o_istore, o_iinc, o_iadd, o_isub, o_imul, o_iand, o_ior, o_ixor, o_ishl, o_ishr, o_iushr, o_idiv, o_irem, o_ineg, o_dup, o_dup2, o_pop, o_if_eq, o_if_ne, o_if_lt, o_if_ge, o_if_gt, o_if_le, o_icmp_eq, o_icmp_ne, o_icmp_lt, o_icmp_ge, o_icmp_gt, o_icmp_le, o_nonnull, o_lsw2, o_iret, o_zret, o_vret, o_cV0, o_cV1, o_cV2, o_cV3, o_cV4, o_cV5, o_cV6, o_cS1, o_cS2, o_cS3, o_cS4, lg, lset, inB, pushv, c1, okr, at_, List.replicate, true_and, and_true, true_or, or_true, eq_self, forall_const, not_true_eq_false, not_false_eq_true, forall_eq, false_implies, true_implies,  List.length_nil, List.length_cons, Nat.zero_le, Nat.reduceAdd, Nat.reduceLeDiff, e32, nLe, nI_add, e47, gE5, gE4, ldI sh55, n1]
    refine ⟨fun q => absurd q (by omega), fun _ => ⟨fun _ => h _ hlt, fun _ => ⟨fun _ => ih (j + 1) _ (by omega), fun _ => h _ hlt⟩⟩⟩
theorem sp_keep {x w : Nat} (hx : x < 2147483648) (hax : x / 262144 = ag) (hw : w = LL m V (x / 2048 % 128) (x / 512 % 4) (x % 512)) (hI : SInv σ b m V ag) (h : ∀ τ, (∀ a, a ≠ 55 → a ≠ 56 → τ a = σ a) → SInv τ b m V ag → Q none τ) :
    E G MX2_keep (d + 1) 0 [some (.ref 52), some (.int (nI x)), some (.int (nI w)), none] [] σ Q := by
  apply kX2_keep_0
  simp only [ia1, ia2, ia3, ia4, inn, inm, i10, i01, i0n, i1n, i0m, i1m, o_push, o_iload, o_aload, o_istore, o_iinc, o_iadd, o_isub, o_imul, o_iand, o_ior, o_ixor, o_ishl, o_ishr, o_iushr, o_idiv, o_irem, o_ineg, o_dup, o_dup2, o_pop, o_if_eq, o_if_ne, o_if_lt, o_if_ge, o_if_gt, o_if_le, o_icmp_eq, o_icmp_ne, o_icmp_lt, o_icmp_ge, o_icmp_gt, o_icmp_le, o_nonnull, o_lsw2, o_iret, o_zret, o_vret, o_cV0, o_cV1, o_cV2, o_cV3, o_cV4, o_cV5, o_cV6, o_cS1, o_cS2, o_cS3, o_cS4, lg, lset, inB, pushv, c1, okr, at_, List.replicate, true_and, and_true, true_or, or_true, eq_self, forall_const, not_true_eq_false, not_false_eq_true, forall_eq, false_implies, true_implies,  List.length_nil, List.length_cons, Nat.zero_le, Nat.reduceAdd, Nat.reduceLeDiff, sh52k]
  refine sp_slotOf (fun i hi => ?_)
  simp (disch := omega) only [ia1, ia2, ia3, ia4, inn, inm, i10, i01, i0n, i1n, i0m, i1m, o_push, o_iload, o_aload, o_istore, o_iinc, o_iadd, o_isub, o_imul, o_iand, o_ior, o_ixor, o_ishl, o_ishr, o_iushr, o_idiv, o_irem, o_ineg, o_dup, o_dup2, o_pop, o_if_eq, o_if_ne, o_if_lt, o_if_ge, o_if_gt, o_if_le, o_icmp_eq, o_icmp_ne, o_icmp_lt, o_icmp_ge, o_icmp_gt, o_icmp_le, o_nonnull, o_lsw2, o_iret, o_zret, o_vret, o_cV0, o_cV1, o_cV2, o_cV3, o_cV4, o_cV5, o_cV6, o_cS1, o_cS2, o_cS3, o_cS4, lg, lset, inB, pushv, c1, okr, at_, List.replicate, true_and, and_true, true_or, or_true, eq_self, forall_const, not_true_eq_false, not_false_eq_true, forall_eq, false_implies, true_implies,  List.length_nil, List.length_cons, Nat.zero_le, Nat.reduceAdd, Nat.reduceLeDiff, gE5, gE6, stI sh55, stI sh56]
  obtain ⟨h0, h1, h4, ha1, ha2, h53, hk⟩ := hI
  refine h _ (fun a q1 q2 => by rw [wr_o q2, wr_o q1]) ⟨?_, ?_, ?_, ha1, ha2, fun S hS hS0 => ?_, fun j hj => ?_⟩
  · rw [wr_o (by omega), wr_o (by omega)]; exact h0
  · rw [wr_o (by omega), wr_o (by omega)]; exact h1
  · rw [wr_o (by omega), wr_o (by omega)]; exact h4
  · rw [wr_o (by omega), wr_o (by omega)]; exact h53 S hS hS0
  · rw [wr_o (show (55 : Nat) ≠ 56 by omega)]
    by_cases hij : j = i
    · subst hij
      exact ⟨x, wr_s, hx, by omega, fun _ => by rw [wr_s, hw]⟩
    · obtain ⟨y, e1, e2, e3, e4⟩ := hk j hj
      exact ⟨y, by rw [wr_n (by omega)]; exact e1, e2, e3, fun z => by rw [wr_n (by omega), wr_o (by omega)]; exact e4 z⟩
theorem f_neg1 : ∀ f, f < 4 → ¬ nI f = -nI 1 := by decide +kernel
theorem fbw_neg (hV : VOk V) (S : Nat) : (fbw V S = -nI 1) = ¬ okB V S := by
  unfold fbw
  by_cases h : okB V S
  · rw [if_pos h]
    exact propext ⟨fun q => absurd q (f_neg1 _ (famS_le hV S)), fun q => absurd h q⟩
  · rw [if_neg h]
    simp [h]
end SEARCHC
