/-! the reference's tables -/
def rbw (V : Nat → Nat) (S : Nat) : Int32 := if okB V S then nI (famS V S) else -6
def BFt (σ : Mem) (V : Nat → Nat) : Prop := ∀ S, S < 2 ^ V 9 → σ 64 S = rbw V S
theorem okB_uni {V : Nat → Nat} (hV : VOk V) {S : Nat} (hS : S < 2 ^ V 9) : okB V S ↔ (volS V S ≤ V 6 ∧ unI V S) := by
  constructor
  · rintro ⟨h1, h2, h3, h4⟩
    exact ⟨h4, famS_lt hV h1 h2, h3⟩
  · rintro ⟨h4, h5, h3⟩
    refine ⟨fun z => ?_, hS, h3, h4⟩
    subst z
    unfold famS at h5
    rw [famR_zero] at h5
    omega
theorem rbw_neg {V : Nat → Nat} (hV : VOk V) (S : Nat) : (rbw V S < 0) = ¬ okB V S := by
  unfold rbw
  by_cases h : okB V S
  · rw [if_pos h]
    exact propext ⟨fun q => absurd q (nI_pos (by have := famS_le hV S; omega)), fun q => absurd h q⟩
  · rw [if_neg h]
    exact propext ⟨fun _ => h, fun _ => n6neg⟩
theorem rbw_nn {V : Nat → Nat} (hV : VOk V) (S : Nat) : (0 ≤ rbw V S) = okB V S := by
  have := rbw_neg hV S
  by_cases h : okB V S
  · exact propext ⟨fun _ => h, fun _ => Int32.not_lt.mp (fun z => by rw [this] at z; exact z h)⟩
  · exact propext ⟨fun z => absurd (Int32.not_lt.mpr z) (fun w => w (by rw [this]; exact h)), fun z => absurd z h⟩
def CB (σ : Mem) (V : Nat → Nat) : Prop := ∀ q, q < (fullS V + 1) * 1320 → σ 65 q = 0 ∨ (σ 65 q = 1 ∧ q % 330 ≤ 47 * pc (q / 1320))
def Clo (σ : Mem) (V : Nat → Nat) (p : Nat) : Prop := ∀ q, q < p → σ 65 q = 1 → ∀ b, okB V b → b &&& (q / 1320) = 0 → σ 65 (plc (q / 1320 ||| b) (famS V b) (q % 330 + tk V (q / 330 % 4) (famS V b))) = 1
def CInv (σ : Mem) (V : Nat → Nat) : Prop := CB σ V ∧ σ 65 990 = 1 ∧ Clo σ V ((fullS V + 1) * 1320)
theorem plc_s {s l t : Nat} (hl : l < 4) (ht : t < 330) : plc s l t / 1320 = s := by unfold plc; omega
theorem plc_l {s l t : Nat} (hl : l < 4) (ht : t < 330) : plc s l t / 330 % 4 = l := by unfold plc; omega
theorem plc_t {s l t : Nat} (ht : t < 330) : plc s l t % 330 = t := by unfold plc; omega
theorem plc_ge {s l t : Nat} : s * 1320 ≤ plc s l t := by unfold plc; omega
theorem plc_lt {s l t : Nat} (hl : l < 4) (ht : t < 330) : plc s l t < (s + 1) * 1320 := by unfold plc; omega
theorem plc_u (q : Nat) : plc (q / 1320) (q / 330 % 4) (q % 330) = q := by unfold plc; omega
theorem full_sub {V : Nat → Nat} {b : Nat} (h : b < 2 ^ V 9) : b &&& fullS V = b := by
  unfold fullS
  rw [Nat.and_two_pow_sub_one_eq_mod, Nat.mod_eq_of_lt h]
theorem full_le {V : Nat → Nat} {b : Nat} (h : b < 2 ^ V 9) : b ≤ fullS V := by unfold fullS; omega
theorem full_bd {V : Nat → Nat} (hV : VOk V) : (fullS V + 1) * 1320 ≤ 168960 := by
  have := full_lt hV; omega
section TABM
variable {G : Gp} {d : Nat} {Q : Option Value → Mem → Prop} {σ : Mem} {V : Nat → Nat}
theorem RAt.fr {τ : Mem} (h : RAt σ V) (he : τ 58 = σ 58) : RAt τ V := by unfold RAt; rw [he]; exact h
theorem r_layBatches (hV : VOk V) (hR : RAt σ V) (h : ∀ τ, (∀ a, a ≠ 64 → τ a = σ a) → BFt τ V → Q none τ) : E G MX5_layBatches (d + 2) 0 [some (.ref 57), none] [] σ Q := by
  have hf := full_lt hV
  have h2 : fullS V + 1 = 2 ^ V 9 := by have : 1 ≤ 2 ^ V 9 := Nat.one_le_two_pow; unfold fullS; omega
  apply kX5_layBatches_0
  simp only [ia1, ia2, ia3, ia4, inn, inm, i10, i01, i0n, i1n, i0m, i1m, o_push, o_iload, o_aload, o_istore, o_iinc, o_iadd, o_isub, o_imul, o_iand, o_ior, o_ixor, o_ishl, o_ishr, o_iushr, o_idiv, o_irem, o_ineg, o_dup, o_dup2, o_pop, o_if_eq, o_if_ne, o_if_lt, o_if_ge, o_if_gt, o_if_le, o_icmp_eq, o_icmp_ne, o_icmp_lt, o_icmp_ge, o_icmp_gt, o_icmp_le, o_nonnull, o_lsw2, o_iret, o_zret, o_vret, o_cV0, o_cV1, o_cV2, o_cV3, o_cV4, o_cV5, o_cV6, o_cS1, o_cS2, o_cS3, o_cS4, lg, lset, inB, pushv, c1, okr, at_, List.replicate, true_and, and_true, true_or, or_true, eq_self, forall_const, not_true_eq_false, not_false_eq_true, forall_eq, false_implies, true_implies,  List.length_nil, List.length_cons, Nat.zero_le, Nat.reduceAdd, Nat.reduceLeDiff, n0]
  suffices H : ∀ k j (τ : Mem), k + j = fullS V + 1 → (∀ a, a ≠ 64 → τ a = σ a) → (∀ S, S < j → τ 64 S = rbw V S) → E G MX5_layBatches (d + 2) 2 [some (.ref 57), some (.int (nI j))] [] τ Q from
    H (fullS V + 1) 0 σ (by omega) (fun _ _ => rfl) (fun S hS => by omega)
  intro k
  induction k with
  | zero =>
    intro j τ hj hfr hB
    have hRt : RAt τ V := hR.fr (hfr 58 (by omega))
    apply kX5_layBatches_2
    simp only [ia1, ia2, ia3, ia4, inn, inm, i10, i01, i0n, i1n, i0m, i1m, o_push, o_iload, o_aload, o_istore, o_iinc, o_iadd, o_isub, o_imul, o_iand, o_ior, o_ixor, o_ishl, o_ishr, o_iushr, o_idiv, o_irem, o_ineg, o_dup, o_dup2, o_pop, o_if_eq, o_if_ne, o_if_lt, o_if_ge, o_if_gt, o_if_le, o_icmp_eq, o_icmp_ne, o_icmp_lt, o_icmp_ge, o_icmp_gt, o_icmp_le, o_nonnull, o_lsw2, o_iret, o_zret, o_vret, o_cV0, o_cV1, o_cV2, o_cV3, o_cV4, o_cV5, o_cV6, o_cS1, o_cS2, o_cS3, o_cS4, lg, lset, inB, pushv, c1, okr, at_, List.replicate, true_and, and_true, true_or, or_true, eq_self, forall_const, not_true_eq_false, not_false_eq_true, forall_eq, false_implies, true_implies,  List.length_nil, List.length_cons, Nat.zero_le, Nat.reduceAdd, Nat.reduceLeDiff, sh57k]
    refine r_full hV hRt ?_
    simp (disch := omega) only [ia1, ia2, ia3, ia4, inn, inm, i10, i01, i0n, i1n, i0m, i1m, o_push, o_iload, o_aload, o_istore, o_iinc, o_iadd, o_isub, o_imul, o_iand, o_ior, o_ixor, o_ishl, o_ishr, o_iushr, o_idiv, o_irem, o_ineg, o_dup, o_dup2, o_pop, o_if_eq, o_if_ne, o_if_lt, o_if_ge, o_if_gt, o_if_le, o_icmp_eq, o_icmp_ne, o_icmp_lt, o_icmp_ge, o_icmp_gt, o_icmp_le, o_nonnull, o_lsw2, o_iret, o_zret, o_vret, o_cV0, o_cV1, o_cV2, o_cV3, o_cV4, o_cV5, o_cV6, o_cS1, o_cS2, o_cS3, o_cS4, lg, lset, inB, pushv, c1, okr, at_, List.replicate, true_and, and_true, true_or, or_true, eq_self, forall_const, not_true_eq_false, not_false_eq_true, forall_eq, false_implies, true_implies,  List.length_nil, List.length_cons, Nat.zero_le, Nat.reduceAdd, Nat.reduceLeDiff, nLt]
    exact ⟨fun _ => h τ hfr (fun S hS => hB S (by omega)), fun q => absurd (by omega) q⟩
  | succ k ih =>
    intro j τ hj hfr hB
    have hRt : RAt τ V := hR.fr (hfr 58 (by omega))
    have hvl := volS_le hV j
    have hr := hV.2.1
    have nx : ∀ x : Int32, x = rbw V j → E G MX5_layBatches (d + 2) 2 [some (.ref 57), some (.int (nI (j + 1)))] [] (wr τ 64 j x) Q := by
      intro x hx
      refine ih (j + 1) _ (by omega) (fun a ha => by rw [wr_o ha]; exact hfr a ha) (fun S hS => ?_)
      by_cases hSj : S = j
      · subst hSj; rw [wr_s, hx]
      · rw [wr_n (by omega)]; exact hB S (by omega)
    have hku := okB_uni hV (S := j) (by omega)
    apply kX5_layBatches_2
    simp only [ia1, ia2, ia3, ia4, inn, inm, i10, i01, i0n, i1n, i0m, i1m, o_push, o_iload, o_aload, o_istore, o_iinc, o_iadd, o_isub, o_imul, o_iand, o_ior, o_ixor, o_ishl, o_ishr, o_iushr, o_idiv, o_irem, o_ineg, o_dup, o_dup2, o_pop, o_if_eq, o_if_ne, o_if_lt, o_if_ge, o_if_gt, o_if_le, o_icmp_eq, o_icmp_ne, o_icmp_lt, o_icmp_ge, o_icmp_gt, o_icmp_le, o_nonnull, o_lsw2, o_iret, o_zret, o_vret, o_cV0, o_cV1, o_cV2, o_cV3, o_cV4, o_cV5, o_cV6, o_cS1, o_cS2, o_cS3, o_cS4, lg, lset, inB, pushv, c1, okr, at_, List.replicate, true_and, and_true, true_or, or_true, eq_self, forall_const, not_true_eq_false, not_false_eq_true, forall_eq, false_implies, true_implies,  List.length_nil, List.length_cons, Nat.zero_le, Nat.reduceAdd, Nat.reduceLeDiff, sh57k]
    refine r_full hV hRt ?_
    simp (disch := omega) only [ia1, ia2, ia3, ia4, inn, inm, i10, i01, i0n, i1n, i0m, i1m, o_push, o_iload, o_aload, o_istore, o_iinc, o_iadd, o_isub, o_imul, o_iand, o_ior, o_ixor, o_ishl, o_ishr, o_iushr, o_idiv, o_irem, o_ineg, o_dup, o_dup2, o_pop, o_if_eq, o_if_ne, o_if_lt, o_if_ge, o_if_gt, o_if_le, o_icmp_eq, o_icmp_ne, o_icmp_lt, o_icmp_ge, o_icmp_gt, o_icmp_le, o_nonnull, o_lsw2, o_iret, o_zret, o_vret, o_cV0, o_cV1, o_cV2, o_cV3, o_cV4, o_cV5, o_cV6, o_cS1, o_cS2, o_cS3, o_cS4, lg, lset, inB, pushv, c1, okr, at_, List.replicate, true_and, and_true, true_or, or_true, eq_self, forall_const, not_true_eq_false, not_false_eq_true, forall_eq, false_implies, true_implies,  List.length_nil, List.length_cons, Nat.zero_le, Nat.reduceAdd, Nat.reduceLeDiff, nLt, gM8, sh57k]
    refine ⟨fun q => absurd q (by omega), fun _ => r_volumeOf (by omega) hV hRt ?_⟩
    simp (disch := omega) only [ia1, ia2, ia3, ia4, inn, inm, i10, i01, i0n, i1n, i0m, i1m, o_push, o_iload, o_aload, o_istore, o_iinc, o_iadd, o_isub, o_imul, o_iand, o_ior, o_ixor, o_ishl, o_ishr, o_iushr, o_idiv, o_irem, o_ineg, o_dup, o_dup2, o_pop, o_if_eq, o_if_ne, o_if_lt, o_if_ge, o_if_gt, o_if_le, o_icmp_eq, o_icmp_ne, o_icmp_lt, o_icmp_ge, o_icmp_gt, o_icmp_le, o_nonnull, o_lsw2, o_iret, o_zret, o_vret, o_cV0, o_cV1, o_cV2, o_cV3, o_cV4, o_cV5, o_cV6, o_cS1, o_cS2, o_cS3, o_cS4, lg, lset, inB, pushv, c1, okr, at_, List.replicate, true_and, and_true, true_or, or_true, eq_self, forall_const, not_true_eq_false, not_false_eq_true, forall_eq, false_implies, true_implies,  List.length_nil, List.length_cons, Nat.zero_le, Nat.reduceAdd, Nat.reduceLeDiff, gM0, n6, ldI sh58, hRt 6 (by omega), nLt, stI sh64, n1, nI_add, sh57k]
    refine ⟨fun q => nx _ ?_, fun q => r_familyOf (by omega) hV hRt ?_⟩
    · rw [rbw, if_neg (fun z => by have := (hku.mp z).1; omega)]; rfl
    · simp (disch := omega) only [ia1, ia2, ia3, ia4, inn, inm, i10, i01, i0n, i1n, i0m, i1m, o_push, o_iload, o_aload, o_istore, o_iinc, o_iadd, o_isub, o_imul, o_iand, o_ior, o_ixor, o_ishl, o_ishr, o_iushr, o_idiv, o_irem, o_ineg, o_dup, o_dup2, o_pop, o_if_eq, o_if_ne, o_if_lt, o_if_ge, o_if_gt, o_if_le, o_icmp_eq, o_icmp_ne, o_icmp_lt, o_icmp_ge, o_icmp_gt, o_icmp_le, o_nonnull, o_lsw2, o_iret, o_zret, o_vret, o_cV0, o_cV1, o_cV2, o_cV3, o_cV4, o_cV5, o_cV6, o_cS1, o_cS2, o_cS3, o_cS4, lg, lset, inB, pushv, c1, okr, at_, List.replicate, true_and, and_true, true_or, or_true, eq_self, forall_const, not_true_eq_false, not_false_eq_true, forall_eq, false_implies, true_implies,  List.length_nil, List.length_cons, Nat.zero_le, Nat.reduceAdd, Nat.reduceLeDiff, stI sh64, n1, nI_add]
      refine nx _ ?_
      unfold rbw fmI
      by_cases hu : unI V j
      · rw [if_pos hu, if_pos (hku.mpr ⟨by omega, hu⟩)]
      · rw [if_neg hu, if_neg (fun z => hu (hku.mp z).2)]
theorem r_markFrom {s l t : Nat} (hV : VOk V) (hR : RAt σ V) (hB : BFt σ V) (hC : CB σ V) (hs : s < 2 ^ V 9) (hl : l < 4) (ht : t ≤ 47 * pc s)
    (h : ∀ τ, (∀ a, a ≠ 65 → τ a = σ a) → CB τ V → (∀ q, q < (s + 1) * 1320 → τ 65 q = σ 65 q) → (∀ q, σ 65 q = 1 → τ 65 q = 1) → (∀ b, okB V b → b &&& s = 0 → τ 65 (plc (s ||| b) (famS V b) (t + tk V l (famS V b))) = 1) → Q none τ) :
    E G MX5_markFrom (d + 2) 0 [some (.ref 57), some (.int (nI s)), some (.int (nI l)), some (.int (nI t)), none] [] σ Q := by
  have hf := full_lt hV
  have hbd := full_bd hV
  have h2 : fullS V + 1 = 2 ^ V 9 := by have : 1 ≤ 2 ^ V 9 := Nat.one_le_two_pow; unfold fullS; omega
  have hps := pc_7 s (by omega)
  apply kX5_markFrom_0
  simp only [ia1, ia2, ia3, ia4, inn, inm, i10, i01, i0n, i1n, i0m, i1m, o_push, o_iload, o_aload, o_istore, o_iinc, o_iadd, o_isub, o_imul, o_iand, o_ior, o_ixor, o_ishl, o_ishr, o_iushr, o_idiv, o_irem, o_ineg, o_dup, o_dup2, o_pop, o_if_eq, o_if_ne, o_if_lt, o_if_ge, o_if_gt, o_if_le, o_icmp_eq, o_icmp_ne, o_icmp_lt, o_icmp_ge, o_icmp_gt, o_icmp_le, o_nonnull, o_lsw2, o_iret, o_zret, o_vret, o_cV0, o_cV1, o_cV2, o_cV3, o_cV4, o_cV5, o_cV6, o_cS1, o_cS2, o_cS3, o_cS4, lg, lset, inB, pushv, c1, okr, at_, List.replicate, true_and, and_true, true_or, or_true, eq_self, forall_const, not_true_eq_false, not_false_eq_true, forall_eq, false_implies, true_implies,  List.length_nil, List.length_cons, Nat.zero_le, Nat.reduceAdd, Nat.reduceLeDiff, n1]
  suffices H : ∀ k b (τ : Mem), k + b = fullS V + 1 → 1 ≤ b → (∀ a, a ≠ 65 → τ a = σ a) → CB τ V → (∀ q, q < (s + 1) * 1320 → τ 65 q = σ 65 q) → (∀ q, σ 65 q = 1 → τ 65 q = 1) → (∀ c, c < b → okB V c → c &&& s = 0 → τ 65 (plc (s ||| c) (famS V c) (t + tk V l (famS V c))) = 1) →
      E G MX5_markFrom (d + 2) 3 [some (.ref 57), some (.int (nI s)), some (.int (nI l)), some (.int (nI t)), some (.int (nI b))] [] τ Q from
    H (fullS V) 1 σ (by omega) (by omega) (fun _ _ => rfl) hC (fun _ _ => rfl) (fun _ z => z) (fun c hc hok => absurd hok.1 (by omega))
  intro k
  induction k with
  | zero =>
    intro b τ hb hb1 hfr hCt hlo hmo hdn
    have hRt : RAt τ V := hR.fr (hfr 58 (by omega))
    apply kX5_markFrom_3
    simp only [ia1, ia2, ia3, ia4, inn, inm, i10, i01, i0n, i1n, i0m, i1m, o_push, o_iload, o_aload, o_istore, o_iinc, o_iadd, o_isub, o_imul, o_iand, o_ior, o_ixor, o_ishl, o_ishr, o_iushr, o_idiv, o_irem, o_ineg, o_dup, o_dup2, o_pop, o_if_eq, o_if_ne, o_if_lt, o_if_ge, o_if_gt, o_if_le, o_icmp_eq, o_icmp_ne, o_icmp_lt, o_icmp_ge, o_icmp_gt, o_icmp_le, o_nonnull, o_lsw2, o_iret, o_zret, o_vret, o_cV0, o_cV1, o_cV2, o_cV3, o_cV4, o_cV5, o_cV6, o_cS1, o_cS2, o_cS3, o_cS4, lg, lset, inB, pushv, c1, okr, at_, List.replicate, true_and, and_true, true_or, or_true, eq_self, forall_const, not_true_eq_false, not_false_eq_true, forall_eq, false_implies, true_implies,  List.length_nil, List.length_cons, Nat.zero_le, Nat.reduceAdd, Nat.reduceLeDiff, sh57k]
    refine r_full hV hRt ?_
    simp (disch := omega) only [ia1, ia2, ia3, ia4, inn, inm, i10, i01, i0n, i1n, i0m, i1m, o_push, o_iload, o_aload, o_istore, o_iinc, o_iadd, o_isub, o_imul, o_iand, o_ior, o_ixor, o_ishl, o_ishr, o_iushr, o_idiv, o_irem, o_ineg, o_dup, o_dup2, o_pop, o_if_eq, o_if_ne, o_if_lt, o_if_ge, o_if_gt, o_if_le, o_icmp_eq, o_icmp_ne, o_icmp_lt, o_icmp_ge, o_icmp_gt, o_icmp_le, o_nonnull, o_lsw2, o_iret, o_zret, o_vret, o_cV0, o_cV1, o_cV2, o_cV3, o_cV4, o_cV5, o_cV6, o_cS1, o_cS2, o_cS3, o_cS4, lg, lset, inB, pushv, c1, okr, at_, List.replicate, true_and, and_true, true_or, or_true, eq_self, forall_const, not_true_eq_false, not_false_eq_true, forall_eq, false_implies, true_implies,  List.length_nil, List.length_cons, Nat.zero_le, Nat.reduceAdd, Nat.reduceLeDiff, nLt]
    exact ⟨fun _ => h τ hfr hCt hlo hmo (fun c hc hcs => hdn c (by have := hc.2.1; omega) hc hcs), fun q => absurd (by omega) q⟩
  | succ k ih =>
    intro b τ hb hb1 hfr hCt hlo hmo hdn
    have hRt : RAt τ V := hR.fr (hfr 58 (by omega))
    have hBt : τ 64 b = rbw V b := by rw [hfr 64 (by omega)]; exact hB b (by omega)
    have hand : b &&& s ≤ b := Nat.and_le_left
    have skip : ¬ (okB V b ∧ b &&& s = 0) → E G MX5_markFrom (d + 2) 3 [some (.ref 57), some (.int (nI s)), some (.int (nI l)), some (.int (nI t)), some (.int (nI (b + 1)))] [] τ Q := by
      intro hz
      refine ih (b + 1) τ (by omega) (by omega) hfr hCt hlo hmo (fun c hc hok hcs => ?_)
      by_cases hcb : c = b
      · subst hcb; exact absurd ⟨hok, hcs⟩ hz
      · exact hdn c (by omega) hok hcs
    apply kX5_markFrom_3
    simp only [ia1, ia2, ia3, ia4, inn, inm, i10, i01, i0n, i1n, i0m, i1m, o_push, o_iload, o_aload, o_istore, o_iinc, o_iadd, o_isub, o_imul, o_iand, o_ior, o_ixor, o_ishl, o_ishr, o_iushr, o_idiv, o_irem, o_ineg, o_dup, o_dup2, o_pop, o_if_eq, o_if_ne, o_if_lt, o_if_ge, o_if_gt, o_if_le, o_icmp_eq, o_icmp_ne, o_icmp_lt, o_icmp_ge, o_icmp_gt, o_icmp_le, o_nonnull, o_lsw2, o_iret, o_zret, o_vret, o_cV0, o_cV1, o_cV2, o_cV3, o_cV4, o_cV5, o_cV6, o_cS1, o_cS2, o_cS3, o_cS4, lg, lset, inB, pushv, c1, okr, at_, List.replicate, true_and, and_true, true_or, or_true, eq_self, forall_const, not_true_eq_false, not_false_eq_true, forall_eq, false_implies, true_implies,  List.length_nil, List.length_cons, Nat.zero_le, Nat.reduceAdd, Nat.reduceLeDiff, sh57k]
    refine r_full hV hRt ?_
    simp (disch := omega) only [ia1, ia2, ia3, ia4, inn, inm, i10, i01, i0n, i1n, i0m, i1m, o_push, o_iload, o_aload, o_istore, o_iinc, o_iadd, o_isub, o_imul, o_iand, o_ior, o_ixor, o_ishl, o_ishr, o_iushr, o_idiv, o_irem, o_ineg, o_dup, o_dup2, o_pop, o_if_eq, o_if_ne, o_if_lt, o_if_ge, o_if_gt, o_if_le, o_icmp_eq, o_icmp_ne, o_icmp_lt, o_icmp_ge, o_icmp_gt, o_icmp_le, o_nonnull, o_lsw2, o_iret, o_zret, o_vret, o_cV0, o_cV1, o_cV2, o_cV3, o_cV4, o_cV5, o_cV6, o_cS1, o_cS2, o_cS3, o_cS4, lg, lset, inB, pushv, c1, okr, at_, List.replicate, true_and, and_true, true_or, or_true, eq_self, forall_const, not_true_eq_false, not_false_eq_true, forall_eq, false_implies, true_implies,  List.length_nil, List.length_cons, Nat.zero_le, Nat.reduceAdd, Nat.reduceLeDiff, nLt, fa_and, n0, nEq, gM8, ldI sh64, hBt, n1, nI_add, fa_or, gM9]
    refine ⟨fun q => absurd q (by omega), fun _ => ⟨fun q => skip (fun z => q z.2), fun q => ?_⟩⟩
    rw [← n0, rbw_neg hV]
    refine ⟨fun q2 => skip (fun z => q2 z.1), fun q2 => ?_⟩
    have hok : okB V b := Classical.not_not.mp q2
    have hf3 := famS_lt hV hok.1 hok.2.1
    have hk := tk_le hV l (famS V b)
    have hpo := pc_or s (by omega) b (by omega) hok.1 q
    have hgt := or_gt s (by omega) b (by omega) hok.1 q
    have hsb : s ||| b < 2 ^ V 9 := Nat.or_lt_two_pow hs hok.2.1
    have hp7 := pc_7 (s ||| b) (by omega)
    rw [rbw, if_pos hok]
    simp only [ia1, ia2, ia3, ia4, inn, inm, i10, i01, i0n, i1n, i0m, i1m, o_push, o_iload, o_aload, o_istore, o_iinc, o_iadd, o_isub, o_imul, o_iand, o_ior, o_ixor, o_ishl, o_ishr, o_iushr, o_idiv, o_irem, o_ineg, o_dup, o_dup2, o_pop, o_if_eq, o_if_ne, o_if_lt, o_if_ge, o_if_gt, o_if_le, o_icmp_eq, o_icmp_ne, o_icmp_lt, o_icmp_ge, o_icmp_gt, o_icmp_le, o_nonnull, o_lsw2, o_iret, o_zret, o_vret, o_cV0, o_cV1, o_cV2, o_cV3, o_cV4, o_cV5, o_cV6, o_cS1, o_cS2, o_cS3, o_cS4, lg, lset, inB, pushv, c1, okr, at_, List.replicate, true_and, and_true, true_or, or_true, eq_self, forall_const, not_true_eq_false, not_false_eq_true, forall_eq, false_implies, true_implies,  List.length_nil, List.length_cons, Nat.zero_le, Nat.reduceAdd, Nat.reduceLeDiff, sh57k]
    refine r_endOf hl hf3 hV hRt ?_
    simp only [ia1, ia2, ia3, ia4, inn, inm, i10, i01, i0n, i1n, i0m, i1m, o_push, o_iload, o_aload, o_istore, o_iinc, o_iadd, o_isub, o_imul, o_iand, o_ior, o_ixor, o_ishl, o_ishr, o_iushr, o_idiv, o_irem, o_ineg, o_dup, o_dup2, o_pop, o_if_eq, o_if_ne, o_if_lt, o_if_ge, o_if_gt, o_if_le, o_icmp_eq, o_icmp_ne, o_icmp_lt, o_icmp_ge, o_icmp_gt, o_icmp_le, o_nonnull, o_lsw2, o_iret, o_zret, o_vret, o_cV0, o_cV1, o_cV2, o_cV3, o_cV4, o_cV5, o_cV6, o_cS1, o_cS2, o_cS3, o_cS4, lg, lset, inB, pushv, c1, okr, at_, List.replicate, true_and, and_true, true_or, or_true, eq_self, forall_const, not_true_eq_false, not_false_eq_true, forall_eq, false_implies, true_implies,  List.length_nil, List.length_cons, Nat.zero_le, Nat.reduceAdd, Nat.reduceLeDiff]
    refine r_place ?_
    have e1 := plc_s (s := s ||| b) (l := famS V b) (t := t + tk V l (famS V b)) (by omega) (by omega)
    have e2 := plc_t (s := s ||| b) (l := famS V b) (t := t + tk V l (famS V b)) (by omega)
    have e3 := Nat.le_trans (Nat.mul_le_mul_right 1320 (show s + 1 ≤ s ||| b from hgt)) (plc_ge (s := s ||| b) (l := famS V b) (t := t + tk V l (famS V b)))
    have hplt := Nat.lt_of_lt_of_le (plc_lt (s := s ||| b) (l := famS V b) (t := t + tk V l (famS V b)) (by omega) (by omega)) (Nat.mul_le_mul_right 1320 (show (s ||| b) + 1 ≤ fullS V + 1 by omega))
    generalize hPe : plc (s ||| b) (famS V b) (t + tk V l (famS V b)) = P at e1 e2 e3 hplt
    simp (disch := omega) only [ia1, ia2, ia3, ia4, inn, inm, i10, i01, i0n, i1n, i0m, i1m, o_push, o_iload, o_aload, o_istore, o_iinc, o_iadd, o_isub, o_imul, o_iand, o_ior, o_ixor, o_ishl, o_ishr, o_iushr, o_idiv, o_irem, o_ineg, o_dup, o_dup2, o_pop, o_if_eq, o_if_ne, o_if_lt, o_if_ge, o_if_gt, o_if_le, o_icmp_eq, o_icmp_ne, o_icmp_lt, o_icmp_ge, o_icmp_gt, o_icmp_le, o_nonnull, o_lsw2, o_iret, o_zret, o_vret, o_cV0, o_cV1, o_cV2, o_cV3, o_cV4, o_cV5, o_cV6, o_cS1, o_cS2, o_cS3, o_cS4, lg, lset, inB, pushv, c1, okr, at_, List.replicate, true_and, and_true, true_or, or_true, eq_self, forall_const, not_true_eq_false, not_false_eq_true, forall_eq, false_implies, true_implies,  List.length_nil, List.length_cons, Nat.zero_le, Nat.reduceAdd, Nat.reduceLeDiff, stZ sh65, nar1, n1, nI_add]
    rw [← n1]
    refine ih (b + 1) (wr τ 65 P 1) (by omega) (by omega) (fun a ha => by rw [wr_o ha]; exact hfr a ha) (fun q hq => ?_) (fun q hq => by rw [wr_n (by omega)]; exact hlo q hq) (fun q hq => ?_) (fun c hc hcok hcs => ?_)
    · by_cases hqP : q = P
      · subst hqP
        rw [wr_s]
        refine Or.inr ⟨rfl, ?_⟩
        rw [e1, e2]; omega
      · rw [wr_n (by omega)]; exact hCt q hq
    · by_cases hqP : q = P
      · subst hqP; rw [wr_s]
      · rw [wr_n (by omega)]; exact hmo q hq
    · by_cases hcb : c = b
      · subst hcb; rw [hPe, wr_s]
      · by_cases hqP : plc (s ||| c) (famS V c) (t + tk V l (famS V c)) = P
        · rw [hqP, wr_s]
        · rw [wr_n (by omega)]; exact hdn c (by omega) hcok hcs
end TABM
