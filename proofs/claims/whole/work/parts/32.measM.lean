/-! ends, measures, the batch of a job; one job in one batch -/
def DJ (B : Nat → Nat) (k : Nat) : Prop := ∀ a b j, a < b → b < k → (B a).testBit j = true → (B b).testBit j = false
def boR (B : Nat → Nat) (j : Nat) : Nat → Nat
  | 0 => 0
  | k + 1 => if (B k).testBit j = true then k + 1 else boR B j k
theorem boR_le {B : Nat → Nat} {j : Nat} : ∀ k, boR B j k ≤ k
  | 0 => Nat.le_refl _
  | k + 1 => by
    have := boR_le (B := B) (j := j) k
    unfold boR; split <;> omega
theorem boR_has {B : Nat → Nat} {j : Nat} : ∀ k, boR B j k ≠ 0 → (B (boR B j k - 1)).testBit j = true
  | 0, h => absurd rfl h
  | k + 1, h => by
    unfold boR at h ⊢
    by_cases hb : (B k).testBit j = true
    · rw [if_pos hb]; exact hb
    · rw [if_neg hb] at h ⊢; exact boR_has k h
theorem boR_none {B : Nat → Nat} {j : Nat} : ∀ k, boR B j k = 0 → ∀ i, i < k → (B i).testBit j = false
  | 0, _, i, hi => by omega
  | k + 1, h, i, hi => by
    unfold boR at h
    by_cases hb : (B k).testBit j = true
    · rw [if_pos hb] at h; omega
    · rw [if_neg hb] at h
      by_cases hik : i = k
      · subst hik; simpa using hb
      · exact boR_none k h i (by omega)
theorem eo_bo {V B : Nat → Nat} {j k : Nat} (hD : DJ B k) : eoR V B j 0 k = if boR B j k = 0 then none else some (enR V B (boR B j k - 1)) := by
  have key : ∀ r i, i + r = k → (∀ a, a < i → (B a).testBit j = false) → eoR V B j i r = if boR B j k = 0 then none else some (enR V B (boR B j k - 1)) := by
    intro r
    induction r with
    | zero =>
      intro i hi hno
      unfold eoR
      by_cases h0 : boR B j k = 0
      · rw [if_pos h0]
      · have h1 := boR_has k h0
        have h2 := boR_le (B := B) (j := j) k
        rw [hno _ (by omega)] at h1; cases h1
    | succ r ih =>
      intro i hi hno
      unfold eoR
      by_cases hb : (B i).testBit j = true
      · rw [if_pos hb]
        have h0 : boR B j k ≠ 0 := fun z => by rw [boR_none k z i (by omega)] at hb; cases hb
        rw [if_neg h0]
        have h1 := boR_has k h0
        have h2 := boR_le (B := B) (j := j) k
        have : boR B j k - 1 = i := by
          rcases Nat.lt_trichotomy (boR B j k - 1) i with z | z | z
          · rw [hno _ z] at h1; cases h1
          · exact z
          · have := hD i (boR B j k - 1) j z (by omega) hb
            rw [this] at h1; cases h1
        rw [this]
      · rw [if_neg hb]
        refine ih (i + 1) (by omega) (fun a ha => ?_)
        by_cases hai : a = i
        · subst hai; simpa using hb
        · exact hno a (by omega)
  exact key k 0 (by omega) (fun a ha => by omega)
/-- a plan by a measure is whole, its batches are batches, one job in one -/
theorem lfR_inv {m : Nat} {V : Nat → Nat} (hV : VOk V) {le : Nat} : ∀ r left g sp k (B : Nat → Nat), left < 2 ^ V 9 → (g = if k = 0 then 3 else famS V (B (k - 1))) → jn m sp (LL m V left g (tmR V B k)) ≤ le → (∀ i, i < k → okB V (B i)) → DJ B k → (∀ i j, i < k → (B i).testBit j = true → left.testBit j = false) → (∀ j, j < V 9 → left.testBit j = true ∨ ∃ i, i < k ∧ (B i).testBit j = true) → pc left ≤ r → k + pc left ≤ 7 →
    (lfR m V le r left g sp k B).1 ≤ 7 ∧ (∀ i, i < (lfR m V le r left g sp k B).1 → okB V ((lfR m V le r left g sp k B).2 i)) ∧ DJ (lfR m V le r left g sp k B).2 (lfR m V le r left g sp k B).1 ∧ ∀ j, j < V 9 → ∃ i, i < (lfR m V le r left g sp k B).1 ∧ ((lfR m V le r left g sp k B).2 i).testBit j = true
  | 0, left, g, sp, k, B, hl, hg, hj, hok, hD, hd, hc, hp, hk => by
    have h0 := pc_0 left (Nat.lt_of_lt_of_le hl (p7 hV.2.2.2.2.1)) (by omega)
    subst h0
    refine ⟨by unfold lfR; omega, hok, hD, fun j hj => ?_⟩
    rcases hc j hj with z | z
    · simp at z
    · exact z
  | r + 1, left, g, sp, k, B, hl, hg, hj, hok, hD, hd, hc, hp, hk => by
    have hl7 : left < 128 := Nat.lt_of_lt_of_le hl (p7 hV.2.2.2.2.1)
    unfold lfR
    by_cases h0 : left = 0
    · rw [if_pos h0]
      subst h0
      refine ⟨by simp; omega, hok, hD, fun j hj => ?_⟩
      rcases hc j hj with z | z
      · simp at z
      · exact z
    · rw [if_neg h0]
      obtain ⟨w1, w2, w3, w4⟩ := fbS_spec (m := m) hV hl h0 hj
      generalize fbS m V left g (tmR V B k) sp le = S at w1 w2 w3 w4
      have hpd := pc_sd left hl7 S w3 w1.1.1 w1.2.1
      have htm := tm_add (V := V) (B := B) (k := k) (S := S) g hg
      have h7 := hV.2.2.2.2.1
      refine lfR_inv hV r (sd left S) (famS V S) _ (k + 1) (upN B k S) (sd_sub hl) (by rw [if_neg (by omega)]; simp [upN]) (by rw [htm]; exact w1.2.2) (fun i hi => ?_) (fun a b j hab hbk ha => ?_) (fun i j hi hb => ?_) (fun j hj => ?_) (by omega) (by omega)
      · unfold upN
        split
        · exact w1.1
        · exact hok i (by omega)
      · unfold upN at ha ⊢
        by_cases hbk2 : b = k
        · rw [if_pos hbk2]
          rw [if_neg (by omega)] at ha
          have := hd a j (by omega) ha
          cases hS : S.testBit j
          · rfl
          · rw [sub_bit w1.2.1 hS] at this; cases this
        · rw [if_neg hbk2]
          rw [if_neg (by omega)] at ha
          exact hD a b j hab (by omega) ha
      · by_cases hj7 : j < 7
        · rw [sd_bit hj7]
          unfold upN at hb
          by_cases hik : i = k
          · rw [if_pos hik] at hb; rw [hb]; simp
          · rw [if_neg hik] at hb; rw [hd i j (by omega) hb]; simp
        · exact tb_hi (j := 7) (sd_lt (c := S) hl7) (by omega)
      · rcases hc j hj with z | ⟨i, hi, hb⟩
        · by_cases hS : S.testBit j = true
          · exact Or.inr ⟨k, by omega, by simp [upN, hS]⟩
          · refine Or.inl ?_
            rw [sd_bit (by omega), z]
            simpa using hS
        · exact Or.inr ⟨i, by omega, by unfold upN; rw [if_neg (by omega)]; exact hb⟩
theorem full_bit {V : Nat → Nat} {j : Nat} (hj : j < V 9) : (fullS V).testBit j = true := by
  unfold fullS
  rw [Nat.testBit_two_pow_sub_one]
  simpa using hj
theorem planP_inv {m : Nat} {V : Nat → Nat} (hV : VOk V) : (planP m V).1 ≤ 7 ∧ (∀ i, i < (planP m V).1 → okB V ((planP m V).2 i)) ∧ DJ (planP m V).2 (planP m V).1 ∧ ∀ j, j < V 9 → ∃ i, i < (planP m V).1 ∧ ((planP m V).2 i).testBit j = true := by
  have hfp := pc_7 _ (full_lt hV)
  exact lfR_inv hV 7 (fullS V) 3 0 0 _ full_lt2 rfl (by rw [show tmR V (fun _ => 0) 0 = 0 from rfl]; have e : jn m 0 (LL m V (fullS V) 3 0) = best m V := (by unfold jn best; split <;> simp); rw [e]; exact Nat.le_refl _) (fun i hi => by omega) (fun a b j _ hb => by omega) (fun i j hi => by omega) (fun j hj => Or.inl (full_bit hj)) hfp (by omega)
section MEASM
variable {G : Gp} {d : Nat} {Q : Option Value → Mem → Prop} {σ : Mem} {V B : Nat → Nat} {m k : Nat}
theorem okB_fm (hV : VOk V) {S : Nat} (h : okB V S) : fmI V S = nI (famS V S) := by rw [fmI, if_pos ⟨famS_lt hV h.1 h.2.1, h.2.2.1⟩]
theorem MPl.fr {τ : Mem} (h : MPl σ k B) (h1 : τ 57 6 = σ 57 6) (h2 : τ 62 = σ 62) : MPl τ k B := by unfold MPl; rw [h1, h2]; exact h
theorem MPl.b (h : MPl σ k B) (i : Nat) (hi : i < k) : σ 62 i = nI (B i) := (h.2.2 i hi).1
theorem r_layEnds (hV : VOk V) (hk7 : k ≤ 14) (hR : RAt σ V) (hP : MPl σ k B) (hok : ∀ i, i < k → okB V (B i)) (h : ∀ τ, (∀ a, a ≠ 63 → τ a = σ a) → (∀ i, i < k → τ 63 i = nI (enR V B i)) → Q none τ) : E G MX5_layEnds (d + 2) 0 [some (.ref 57), none, none, none, none] [] σ Q := by
  apply kX5_layEnds_0
  simp only [ia1, ia2, ia3, ia4, inn, inm, i10, i01, i0n, i1n, i0m, i1m, o_push, o_iload, o_aload, o_istore, o_iinc, o_iadd, o_isub, o_imul, o_iand, o_ior, o_ixor, o_ishl, o_ishr, o_iushr, o_idiv, o_irem, o_ineg, o_dup, o_dup2, o_pop, o_if_eq, o_if_ne, o_if_lt, o_if_ge, o_if_gt, o_if_le, o_icmp_eq, o_icmp_ne, o_icmp_lt, o_icmp_ge, o_icmp_gt, o_icmp_le, o_nonnull, o_lsw2, o_iret, o_zret, o_vret, o_cV0, o_cV1, o_cV2, o_cV3, o_cV4, o_cV5, o_cV6, o_cS1, o_cS2, o_cS3, o_cS4, lg, lset, inB, pushv, c1, okr, at_, List.replicate, true_and, and_true, true_or, or_true, eq_self, forall_const, not_true_eq_false, not_false_eq_true, forall_eq, false_implies, true_implies,  List.length_nil, List.length_cons, Nat.zero_le, Nat.reduceAdd, Nat.reduceLeDiff, n0, n3]
  suffices H : ∀ r b t g (τ : Mem) (x : Option Value), r + b = k → t = tmR V B b → (g = if b = 0 then 3 else famS V (B (b - 1))) → (∀ a, a ≠ 63 → τ a = σ a) → (∀ i, i < b → τ 63 i = nI (enR V B i)) → E G MX5_layEnds (d + 2) 6 [some (.ref 57), some (.int (nI t)), some (.int (nI g)), some (.int (nI b)), x] [] τ Q from
    H k 0 0 3 σ _ (by omega) rfl rfl (fun _ _ => rfl) (fun i hi => by omega)
  intro r
  induction r with
  | zero =>
    intro b t g τ x hb ht hg hfr he
    obtain rfl : b = k := by omega
    have h6 : τ 57 6 = nI b := by rw [hfr 57 (by omega)]; exact hP.1
    apply kX5_layEnds_6
    simp (disch := omega) only [ia1, ia2, ia3, ia4, inn, inm, i10, i01, i0n, i1n, i0m, i1m, o_push, o_iload, o_aload, o_istore, o_iinc, o_iadd, o_isub, o_imul, o_iand, o_ior, o_ixor, o_ishl, o_ishr, o_iushr, o_idiv, o_irem, o_ineg, o_dup, o_dup2, o_pop, o_if_eq, o_if_ne, o_if_lt, o_if_ge, o_if_gt, o_if_le, o_icmp_eq, o_icmp_ne, o_icmp_lt, o_icmp_ge, o_icmp_gt, o_icmp_le, o_nonnull, o_lsw2, o_iret, o_zret, o_vret, o_cV0, o_cV1, o_cV2, o_cV3, o_cV4, o_cV5, o_cV6, o_cS1, o_cS2, o_cS3, o_cS4, lg, lset, inB, pushv, c1, okr, at_, List.replicate, true_and, and_true, true_or, or_true, eq_self, forall_const, not_true_eq_false, not_false_eq_true, forall_eq, false_implies, true_implies,  List.length_nil, List.length_cons, Nat.zero_le, Nat.reduceAdd, Nat.reduceLeDiff, gM6, h6, nLe, Nat.le_refl]
    exact h τ hfr he
  | succ r ih =>
    intro b t g τ x hb ht hg hfr he
    have h6 : τ 57 6 = nI k := by rw [hfr 57 (by omega)]; exact hP.1
    have hRt : RAt τ V := hR.fr (hfr 58 (by omega))
    have hb2 := hP.2.2 b (by omega)
    have h62 : τ 62 b = nI (B b) := by rw [hfr 62 (by omega)]; exact hb2.1
    have hokb := hok b (by omega)
    have hg4 : g < 4 := by
      rw [hg]; split
      · omega
      · exact famS_le hV _
    have hen : enR V B b = t + tk V g (famS V (B b)) := by
      rw [ht, hg]
      cases b with
      | zero => simp [enR, tmR]
      | succ b => simp [enR, tmR]
    apply kX5_layEnds_6
    simp (disch := omega) only [ia1, ia2, ia3, ia4, inn, inm, i10, i01, i0n, i1n, i0m, i1m, o_push, o_iload, o_aload, o_istore, o_iinc, o_iadd, o_isub, o_imul, o_iand, o_ior, o_ixor, o_ishl, o_ishr, o_iushr, o_idiv, o_irem, o_ineg, o_dup, o_dup2, o_pop, o_if_eq, o_if_ne, o_if_lt, o_if_ge, o_if_gt, o_if_le, o_icmp_eq, o_icmp_ne, o_icmp_lt, o_icmp_ge, o_icmp_gt, o_icmp_le, o_nonnull, o_lsw2, o_iret, o_zret, o_vret, o_cV0, o_cV1, o_cV2, o_cV3, o_cV4, o_cV5, o_cV6, o_cS1, o_cS2, o_cS3, o_cS4, lg, lset, inB, pushv, c1, okr, at_, List.replicate, true_and, and_true, true_or, or_true, eq_self, forall_const, not_true_eq_false, not_false_eq_true, forall_eq, false_implies, true_implies,  List.length_nil, List.length_cons, Nat.zero_le, Nat.reduceAdd, Nat.reduceLeDiff, gM6, h6, nLe, gM5, ldI sh62, h62, sh57k]
    refine ⟨fun q => absurd q (by omega), fun _ => r_familyOf (by omega) hV hRt ?_⟩
    rw [okB_fm hV hokb]
    simp only [ia1, ia2, ia3, ia4, inn, inm, i10, i01, i0n, i1n, i0m, i1m, o_push, o_iload, o_aload, o_istore, o_iinc, o_iadd, o_isub, o_imul, o_iand, o_ior, o_ixor, o_ishl, o_ishr, o_iushr, o_idiv, o_irem, o_ineg, o_dup, o_dup2, o_pop, o_if_eq, o_if_ne, o_if_lt, o_if_ge, o_if_gt, o_if_le, o_icmp_eq, o_icmp_ne, o_icmp_lt, o_icmp_ge, o_icmp_gt, o_icmp_le, o_nonnull, o_lsw2, o_iret, o_zret, o_vret, o_cV0, o_cV1, o_cV2, o_cV3, o_cV4, o_cV5, o_cV6, o_cS1, o_cS2, o_cS3, o_cS4, lg, lset, inB, pushv, c1, okr, at_, List.replicate, true_and, and_true, true_or, or_true, eq_self, forall_const, not_true_eq_false, not_false_eq_true, forall_eq, false_implies, true_implies,  List.length_nil, List.length_cons, Nat.zero_le, Nat.reduceAdd, Nat.reduceLeDiff, sh57k]
    refine r_endOf hg4 (famS_lt hV hokb.1 hokb.2.1) hV hRt ?_
    simp (disch := omega) only [ia1, ia2, ia3, ia4, inn, inm, i10, i01, i0n, i1n, i0m, i1m, o_push, o_iload, o_aload, o_istore, o_iinc, o_iadd, o_isub, o_imul, o_iand, o_ior, o_ixor, o_ishl, o_ishr, o_iushr, o_idiv, o_irem, o_ineg, o_dup, o_dup2, o_pop, o_if_eq, o_if_ne, o_if_lt, o_if_ge, o_if_gt, o_if_le, o_icmp_eq, o_icmp_ne, o_icmp_lt, o_icmp_ge, o_icmp_gt, o_icmp_le, o_nonnull, o_lsw2, o_iret, o_zret, o_vret, o_cV0, o_cV1, o_cV2, o_cV3, o_cV4, o_cV5, o_cV6, o_cS1, o_cS2, o_cS3, o_cS4, lg, lset, inB, pushv, c1, okr, at_, List.replicate, true_and, and_true, true_or, or_true, eq_self, forall_const, not_true_eq_false, not_false_eq_true, forall_eq, false_implies, true_implies,  List.length_nil, List.length_cons, Nat.zero_le, Nat.reduceAdd, Nat.reduceLeDiff, gM7, stI sh63, n1, nI_add]
    refine ih (b + 1) _ _ _ _ (by omega) (by unfold tmR; rw [if_neg (by omega)]; exact hen.symm) (by rw [if_neg (by omega)]; simp) (fun a ha => by rw [wr_o ha]; exact hfr a ha) (fun i hi => ?_)
    by_cases hib : i = b
    · subst hib; rw [wr_s, hen]
    · rw [wr_n (by omega)]; exact he i (by omega)
theorem msR_bd (hV : VOk V) (hk : k ≤ 7) : msR m V B k ≤ 20000 := by
  have := msR_le (m := m) (B := B) hV k hk
  omega
theorem r_measureOf (hV : VOk V) (hm : m < 4) (hk : k ≤ 7) (hR : RAt σ V) (hP : MPl σ k B) (hok : ∀ i, i < k → okB V (B i)) (h : ∀ τ, (∀ a, a ≠ 63 → τ a = σ a) → Q (some (.int (nI (meas m V k B)))) τ) : E G MX5_measureOf (d + 3) 0 [some (.ref 57), some (.int (nI m)), none, none, none, none] [] σ Q := by
  apply kX5_measureOf_0
  simp only [ia1, ia2, ia3, ia4, inn, inm, i10, i01, i0n, i1n, i0m, i1m, o_push, o_iload, o_aload, o_istore, o_iinc, o_iadd, o_isub, o_imul, o_iand, o_ior, o_ixor, o_ishl, o_ishr, o_iushr, o_idiv, o_irem, o_ineg, o_dup, o_dup2, o_pop, o_if_eq, o_if_ne, o_if_lt, o_if_ge, o_if_gt, o_if_le, o_icmp_eq, o_icmp_ne, o_icmp_lt, o_icmp_ge, o_icmp_gt, o_icmp_le, o_nonnull, o_lsw2, o_iret, o_zret, o_vret, o_cV0, o_cV1, o_cV2, o_cV3, o_cV4, o_cV5, o_cV6, o_cS1, o_cS2, o_cS3, o_cS4, lg, lset, inB, pushv, c1, okr, at_, List.replicate, true_and, and_true, true_or, or_true, eq_self, forall_const, not_true_eq_false, not_false_eq_true, forall_eq, false_implies, true_implies,  List.length_nil, List.length_cons, Nat.zero_le, Nat.reduceAdd, Nat.reduceLeDiff, sh57k]
  refine r_layEnds hV (by omega) hR hP hok (fun σ1 f1 he => ?_)
  have hR1 : RAt σ1 V := hR.fr (f1 58 (by omega))
  have hP1 : MPl σ1 k B := hP.fr (by rw [f1 57 (by omega)]) (f1 62 (by omega))
  simp only [ia1, ia2, ia3, ia4, inn, inm, i10, i01, i0n, i1n, i0m, i1m, o_push, o_iload, o_aload, o_istore, o_iinc, o_iadd, o_isub, o_imul, o_iand, o_ior, o_ixor, o_ishl, o_ishr, o_iushr, o_idiv, o_irem, o_ineg, o_dup, o_dup2, o_pop, o_if_eq, o_if_ne, o_if_lt, o_if_ge, o_if_gt, o_if_le, o_icmp_eq, o_icmp_ne, o_icmp_lt, o_icmp_ge, o_icmp_gt, o_icmp_le, o_nonnull, o_lsw2, o_iret, o_zret, o_vret, o_cV0, o_cV1, o_cV2, o_cV3, o_cV4, o_cV5, o_cV6, o_cS1, o_cS2, o_cS3, o_cS4, lg, lset, inB, pushv, c1, okr, at_, List.replicate, true_and, and_true, true_or, or_true, eq_self, forall_const, not_true_eq_false, not_false_eq_true, forall_eq, false_implies, true_implies,  List.length_nil, List.length_cons, Nat.zero_le, Nat.reduceAdd, Nat.reduceLeDiff, n0]
  suffices H : ∀ r b (x : Option Value), r + b = k → E G MX5_measureOf (d + 3) 11 [some (.ref 57), some (.int (nI m)), some (.int (nI (msR 0 V B b))), some (.int (nI (msR 1 V B b))), some (.int (nI b)), x] [] σ1 Q from H k 0 _ (by omega)
  intro r
  induction r with
  | zero =>
    intro b x hb
    obtain rfl : b = k := by omega
    have hq := h σ1 f1
    apply kX5_measureOf_11
    simp (disch := omega) only [ia1, ia2, ia3, ia4, inn, inm, i10, i01, i0n, i1n, i0m, i1m, o_push, o_iload, o_aload, o_istore, o_iinc, o_iadd, o_isub, o_imul, o_iand, o_ior, o_ixor, o_ishl, o_ishr, o_iushr, o_idiv, o_irem, o_ineg, o_dup, o_dup2, o_pop, o_if_eq, o_if_ne, o_if_lt, o_if_ge, o_if_gt, o_if_le, o_icmp_eq, o_icmp_ne, o_icmp_lt, o_icmp_ge, o_icmp_gt, o_icmp_le, o_nonnull, o_lsw2, o_iret, o_zret, o_vret, o_cV0, o_cV1, o_cV2, o_cV3, o_cV4, o_cV5, o_cV6, o_cS1, o_cS2, o_cS3, o_cS4, lg, lset, inB, pushv, c1, okr, at_, List.replicate, true_and, and_true, true_or, or_true, eq_self, forall_const, not_true_eq_false, not_false_eq_true, forall_eq, false_implies, true_implies,  List.length_nil, List.length_cons, Nat.zero_le, Nat.reduceAdd, Nat.reduceLeDiff, gM6, hP1.1, nLe, Nat.le_refl, n0, n1, n3, nEq, gM7]
    refine ⟨fun q0 => ⟨fun q1 => ⟨fun q3 => ⟨fun qk => ?_, fun qk => ?_⟩, fun q3 => ?_⟩, fun q1 => ?_⟩, fun q0 => ?_⟩
    · obtain rfl : m = 2 := by omega
      simp (disch := omega) only [nSub, ldI sh63, he]
      rw [show meas 2 V b B = tmR V B b from rfl, tmR, if_neg qk] at hq
      exact hq
    · obtain rfl : m = 2 := by omega
      rw [show meas 2 V b B = tmR V B b from rfl, tmR, if_pos qk] at hq
      exact hq
    · subst q3; exact hq
    · subst q1; exact hq
    · subst q0; exact hq
  | succ r ih =>
    intro b x hb
    have hb2 := hP1.2.2 b (by omega)
    have hen := enR_le (B := B) hV b
    have nx := fun y => ih (b + 1) y (by omega)
    have q0 := msR_bd (m := 0) (B := B) hV (k := b) (by omega)
    have q00 := lateR_le (m := 0) (V := V) (S := B b) (e := enR V B b) (V 9)
    have q3 : V 9 * enR V B b ≤ 7 * 329 := Nat.mul_le_mul hV.2.2.2.2.1 (by omega)
    apply kX5_measureOf_11
    simp (disch := omega) only [ia1, ia2, ia3, ia4, inn, inm, i10, i01, i0n, i1n, i0m, i1m, o_push, o_iload, o_aload, o_istore, o_iinc, o_iadd, o_isub, o_imul, o_iand, o_ior, o_ixor, o_ishl, o_ishr, o_iushr, o_idiv, o_irem, o_ineg, o_dup, o_dup2, o_pop, o_if_eq, o_if_ne, o_if_lt, o_if_ge, o_if_gt, o_if_le, o_icmp_eq, o_icmp_ne, o_icmp_lt, o_icmp_ge, o_icmp_gt, o_icmp_le, o_nonnull, o_lsw2, o_iret, o_zret, o_vret, o_cV0, o_cV1, o_cV2, o_cV3, o_cV4, o_cV5, o_cV6, o_cS1, o_cS2, o_cS3, o_cS4, lg, lset, inB, pushv, c1, okr, at_, List.replicate, true_and, and_true, true_or, or_true, eq_self, forall_const, not_true_eq_false, not_false_eq_true, forall_eq, false_implies, true_implies,  List.length_nil, List.length_cons, Nat.zero_le, Nat.reduceAdd, Nat.reduceLeDiff, gM6, hP1.1, nLe, gM5, gM7, ldI sh62, ldI sh63, hb2.1, he, sh57k]
    refine ⟨fun q => absurd q (by omega), fun _ => r_worstOf (by omega) (by omega) hV hR1 ?_⟩
    simp (disch := omega) only [ia1, ia2, ia3, ia4, inn, inm, i10, i01, i0n, i1n, i0m, i1m, o_push, o_iload, o_aload, o_istore, o_iinc, o_iadd, o_isub, o_imul, o_iand, o_ior, o_ixor, o_ishl, o_ishr, o_iushr, o_idiv, o_irem, o_ineg, o_dup, o_dup2, o_pop, o_if_eq, o_if_ne, o_if_lt, o_if_ge, o_if_gt, o_if_le, o_icmp_eq, o_icmp_ne, o_icmp_lt, o_icmp_ge, o_icmp_gt, o_icmp_le, o_nonnull, o_lsw2, o_iret, o_zret, o_vret, o_cV0, o_cV1, o_cV2, o_cV3, o_cV4, o_cV5, o_cV6, o_cS1, o_cS2, o_cS3, o_cS4, lg, lset, inB, pushv, c1, okr, at_, List.replicate, true_and, and_true, true_or, or_true, eq_self, forall_const, not_true_eq_false, not_false_eq_true, forall_eq, false_implies, true_implies,  List.length_nil, List.length_cons, Nat.zero_le, Nat.reduceAdd, Nat.reduceLeDiff, nLe]
    have tail : ∀ w y, w = msR 0 V B (b + 1) → E G MX5_measureOf (d + 3) 52 [some (.ref 57), some (.int (nI m)), some (.int (nI (msR 0 V B b))), some (.int (nI (msR 1 V B b))), some (.int (nI b)), y] [.int (nI w)] σ1 Q := by
      intro w y hw
      apply kX5_measureOf_52
      simp (disch := omega) only [ia1, ia2, ia3, ia4, inn, inm, i10, i01, i0n, i1n, i0m, i1m, o_push, o_iload, o_aload, o_istore, o_iinc, o_iadd, o_isub, o_imul, o_iand, o_ior, o_ixor, o_ishl, o_ishr, o_iushr, o_idiv, o_irem, o_ineg, o_dup, o_dup2, o_pop, o_if_eq, o_if_ne, o_if_lt, o_if_ge, o_if_gt, o_if_le, o_icmp_eq, o_icmp_ne, o_icmp_lt, o_icmp_ge, o_icmp_gt, o_icmp_le, o_nonnull, o_lsw2, o_iret, o_zret, o_vret, o_cV0, o_cV1, o_cV2, o_cV3, o_cV4, o_cV5, o_cV6, o_cS1, o_cS2, o_cS3, o_cS4, lg, lset, inB, pushv, c1, okr, at_, List.replicate, true_and, and_true, true_or, or_true, eq_self, forall_const, not_true_eq_false, not_false_eq_true, forall_eq, false_implies, true_implies,  List.length_nil, List.length_cons, Nat.zero_le, Nat.reduceAdd, Nat.reduceLeDiff, gM5, gM7, ldI sh62, ldI sh63, hb2.1, he, sh57k]
      refine r_sumOf (by omega) (by omega) hV hR1 ?_
      simp only [ia1, ia2, ia3, ia4, inn, inm, i10, i01, i0n, i1n, i0m, i1m, o_push, o_iload, o_aload, o_istore, o_iinc, o_iadd, o_isub, o_imul, o_iand, o_ior, o_ixor, o_ishl, o_ishr, o_iushr, o_idiv, o_irem, o_ineg, o_dup, o_dup2, o_pop, o_if_eq, o_if_ne, o_if_lt, o_if_ge, o_if_gt, o_if_le, o_icmp_eq, o_icmp_ne, o_icmp_lt, o_icmp_ge, o_icmp_gt, o_icmp_le, o_nonnull, o_lsw2, o_iret, o_zret, o_vret, o_cV0, o_cV1, o_cV2, o_cV3, o_cV4, o_cV5, o_cV6, o_cS1, o_cS2, o_cS3, o_cS4, lg, lset, inB, pushv, c1, okr, at_, List.replicate, true_and, and_true, true_or, or_true, eq_self, forall_const, not_true_eq_false, not_false_eq_true, forall_eq, false_implies, true_implies,  List.length_nil, List.length_cons, Nat.zero_le, Nat.reduceAdd, Nat.reduceLeDiff, nI_add, n1]
      rw [hw]
      exact nx _
    refine ⟨fun q => tail _ _ ?_, fun q => tail _ _ ?_⟩
    · rw [msR, jn, if_pos rfl, Nat.max_eq_left q]
    · rw [msR, jn, if_pos rfl, Nat.max_eq_right (by omega)]
theorem r_batchOf {j : Nat} (hj : j < 31) (hP : MPl σ k B) (h : Q (some (.int (if boR B j k = 0 then -6 else nI (boR B j k - 1)))) σ) : E G MX5_batchOf (d + 1) 0 [some (.ref 57), some (.int (nI j)), none, none] [] σ Q := by
  have hk := hP.2.1
  apply kX5_batchOf_0
  simp only [ia1, ia2, ia3, ia4, inn, inm, i10, i01, i0n, i1n, i0m, i1m, o_push, o_iload, o_aload, o_istore, o_iinc, o_iadd, o_isub, o_imul, o_iand, o_ior, o_ixor, o_ishl, o_ishr, o_iushr, o_idiv, o_irem, o_ineg, o_dup, o_dup2, o_pop, o_if_eq, o_if_ne, o_if_lt, o_if_ge, o_if_gt, o_if_le, o_icmp_eq, o_icmp_ne, o_icmp_lt, o_icmp_ge, o_icmp_gt, o_icmp_le, o_nonnull, o_lsw2, o_iret, o_zret, o_vret, o_cV0, o_cV1, o_cV2, o_cV3, o_cV4, o_cV5, o_cV6, o_cS1, o_cS2, o_cS3, o_cS4, lg, lset, inB, pushv, c1, okr, at_, List.replicate, true_and, and_true, true_or, or_true, eq_self, forall_const, not_true_eq_false, not_false_eq_true, forall_eq, false_implies, true_implies,  List.length_nil, List.length_cons, Nat.zero_le, Nat.reduceAdd, Nat.reduceLeDiff, n0]
  suffices H : ∀ r b, r + b = k → E G MX5_batchOf (d + 1) 5 [some (.ref 57), some (.int (nI j)), some (.int (if boR B j b = 0 then -6 else nI (boR B j b - 1))), some (.int (nI b))] [] σ Q from H k 0 (by omega)
  intro r
  induction r with
  | zero =>
    intro b hb
    obtain rfl : b = k := by omega
    apply kX5_batchOf_5
    simp (disch := omega) only [ia1, ia2, ia3, ia4, inn, inm, i10, i01, i0n, i1n, i0m, i1m, o_push, o_iload, o_aload, o_istore, o_iinc, o_iadd, o_isub, o_imul, o_iand, o_ior, o_ixor, o_ishl, o_ishr, o_iushr, o_idiv, o_irem, o_ineg, o_dup, o_dup2, o_pop, o_if_eq, o_if_ne, o_if_lt, o_if_ge, o_if_gt, o_if_le, o_icmp_eq, o_icmp_ne, o_icmp_lt, o_icmp_ge, o_icmp_gt, o_icmp_le, o_nonnull, o_lsw2, o_iret, o_zret, o_vret, o_cV0, o_cV1, o_cV2, o_cV3, o_cV4, o_cV5, o_cV6, o_cS1, o_cS2, o_cS3, o_cS4, lg, lset, inB, pushv, c1, okr, at_, List.replicate, true_and, and_true, true_or, or_true, eq_self, forall_const, not_true_eq_false, not_false_eq_true, forall_eq, false_implies, true_implies,  List.length_nil, List.length_cons, Nat.zero_le, Nat.reduceAdd, Nat.reduceLeDiff, gM6, hP.1, nLe, Nat.le_refl]
    exact h
  | succ r ih =>
    intro b hb
    have hb2 := hP.2.2 b (by omega)
    have nx := ih (b + 1) (by omega)
    apply kX5_batchOf_5
    simp (disch := omega) only [ia1, ia2, ia3, ia4, inn, inm, i10, i01, i0n, i1n, i0m, i1m, o_push, o_iload, o_aload, o_istore, o_iinc, o_iadd, o_isub, o_imul, o_iand, o_ior, o_ixor, o_ishl, o_ishr, o_iushr, o_idiv, o_irem, o_ineg, o_dup, o_dup2, o_pop, o_if_eq, o_if_ne, o_if_lt, o_if_ge, o_if_gt, o_if_le, o_icmp_eq, o_icmp_ne, o_icmp_lt, o_icmp_ge, o_icmp_gt, o_icmp_le, o_nonnull, o_lsw2, o_iret, o_zret, o_vret, o_cV0, o_cV1, o_cV2, o_cV3, o_cV4, o_cV5, o_cV6, o_cS1, o_cS2, o_cS3, o_cS4, lg, lset, inB, pushv, c1, okr, at_, List.replicate, true_and, and_true, true_or, or_true, eq_self, forall_const, not_true_eq_false, not_false_eq_true, forall_eq, false_implies, true_implies,  List.length_nil, List.length_cons, Nat.zero_le, Nat.reduceAdd, Nat.reduceLeDiff, gM6, hP.1, nLe, gM5, ldI sh62, hb2.1, n1, nI_add]
    refine ⟨fun q => absurd q (by omega), fun _ => r_has (by omega) hj (fun hbit => ?_) (fun hbit => ?_)⟩
    · simp only [ia1, ia2, ia3, ia4, inn, inm, i10, i01, i0n, i1n, i0m, i1m, o_push, o_iload, o_aload, o_istore, o_iinc, o_iadd, o_isub, o_imul, o_iand, o_ior, o_ixor, o_ishl, o_ishr, o_iushr, o_idiv, o_irem, o_ineg, o_dup, o_dup2, o_pop, o_if_eq, o_if_ne, o_if_lt, o_if_ge, o_if_gt, o_if_le, o_icmp_eq, o_icmp_ne, o_icmp_lt, o_icmp_ge, o_icmp_gt, o_icmp_le, o_nonnull, o_lsw2, o_iret, o_zret, o_vret, o_cV0, o_cV1, o_cV2, o_cV3, o_cV4, o_cV5, o_cV6, o_cS1, o_cS2, o_cS3, o_cS4, lg, lset, inB, pushv, c1, okr, at_, List.replicate, true_and, and_true, true_or, or_true, eq_self, forall_const, not_true_eq_false, not_false_eq_true, forall_eq, false_implies, true_implies,  List.length_nil, List.length_cons, Nat.zero_le, Nat.reduceAdd, Nat.reduceLeDiff, n1, nI_add]
      rw [boR, if_pos hbit] at nx
      simpa using nx
    · simp only [ia1, ia2, ia3, ia4, inn, inm, i10, i01, i0n, i1n, i0m, i1m, o_push, o_iload, o_aload, o_istore, o_iinc, o_iadd, o_isub, o_imul, o_iand, o_ior, o_ixor, o_ishl, o_ishr, o_iushr, o_idiv, o_irem, o_ineg, o_dup, o_dup2, o_pop, o_if_eq, o_if_ne, o_if_lt, o_if_ge, o_if_gt, o_if_le, o_icmp_eq, o_icmp_ne, o_icmp_lt, o_icmp_ge, o_icmp_gt, o_icmp_le, o_nonnull, o_lsw2, o_iret, o_zret, o_vret, o_cV0, o_cV1, o_cV2, o_cV3, o_cV4, o_cV5, o_cV6, o_cS1, o_cS2, o_cS3, o_cS4, lg, lset, inB, pushv, c1, okr, at_, List.replicate, true_and, and_true, true_or, or_true, eq_self, forall_const, not_true_eq_false, not_false_eq_true, forall_eq, false_implies, true_implies,  List.length_nil, List.length_cons, Nat.zero_le, Nat.reduceAdd, Nat.reduceLeDiff, n1, nI_add]
      have eb : boR B j (b + 1) = boR B j b := by rw [boR, if_neg (by rw [hbit]; simp)]
      rw [eb] at nx
      exact nx
theorem r_told {x : Int32} (hk7 : k ≤ 7) (hx : ¬ x < -1) (hP : MPl σ k B) (h : Q (some (.int (bhm k B x))) σ) : E G MX5_told d 0 [some (.ref 57), some (.int x)] [] σ Q := by
  apply kX5_told_0
  simp only [ia1, ia2, ia3, ia4, inn, inm, i10, i01, i0n, i1n, i0m, i1m, o_push, o_iload, o_aload, o_istore, o_iinc, o_iadd, o_isub, o_imul, o_iand, o_ior, o_ixor, o_ishl, o_ishr, o_iushr, o_idiv, o_irem, o_ineg, o_dup, o_dup2, o_pop, o_if_eq, o_if_ne, o_if_lt, o_if_ge, o_if_gt, o_if_le, o_icmp_eq, o_icmp_ne, o_icmp_lt, o_icmp_ge, o_icmp_gt, o_icmp_le, o_nonnull, o_lsw2, o_iret, o_zret, o_vret, o_cV0, o_cV1, o_cV2, o_cV3, o_cV4, o_cV5, o_cV6, o_cS1, o_cS2, o_cS3, o_cS4, lg, lset, inB, pushv, c1, okr, at_, List.replicate, true_and, and_true, true_or, or_true, eq_self, forall_const, not_true_eq_false, not_false_eq_true, forall_eq, false_implies, true_implies,  List.length_nil, List.length_cons, Nat.zero_le, Nat.reduceAdd, Nat.reduceLeDiff, gM6, hP.1]
  refine ⟨fun q => ?_, fun q => ?_⟩
  · rw [bhm, if_neg q] at h
    have hx0 : ¬ x < 0 := by
      intro z
      rw [Int32.lt_iff_toInt_lt] at z hx
      have q2 : ¬ x.toInt = (-1 : Int32).toInt := fun w => q (Int32.toInt_inj.mp w)
      have e1 : (-1 : Int32).toInt = -1 := by decide
      have e0 : (0 : Int32).toInt = 0 := by decide
      omega
    obtain ⟨i, hi, rfl⟩ := nI_of hx0
    have hin : ((0 : Int32) ≤ nI i ∧ nI i ≤ nI k - 1) ↔ i < k := by
      rw [n1, Int32.le_iff_toInt_le, Int32.le_iff_toInt_le, pk_sub_toInt (by omega) (by omega), nI_toInt hi]
      have : (0 : Int32).toInt = 0 := by decide
      omega
    simp only [nLe (show k < 2 ^ 31 by omega) hi]
    refine ⟨fun q2 => ?_, fun q2 => ?_⟩
    · rw [if_neg (fun z => by have := hin.mp z; omega)] at h; exact h
    · rw [if_pos (hin.mpr (by omega)), nI_clamp hi] at h
      simp (disch := omega) only [ia1, ia2, ia3, ia4, inn, inm, i10, i01, i0n, i1n, i0m, i1m, o_push, o_iload, o_aload, o_istore, o_iinc, o_iadd, o_isub, o_imul, o_iand, o_ior, o_ixor, o_ishl, o_ishr, o_iushr, o_idiv, o_irem, o_ineg, o_dup, o_dup2, o_pop, o_if_eq, o_if_ne, o_if_lt, o_if_ge, o_if_gt, o_if_le, o_icmp_eq, o_icmp_ne, o_icmp_lt, o_icmp_ge, o_icmp_gt, o_icmp_le, o_nonnull, o_lsw2, o_iret, o_zret, o_vret, o_cV0, o_cV1, o_cV2, o_cV3, o_cV4, o_cV5, o_cV6, o_cS1, o_cS2, o_cS3, o_cS4, lg, lset, inB, pushv, c1, okr, at_, List.replicate, true_and, and_true, true_or, or_true, eq_self, forall_const, not_true_eq_false, not_false_eq_true, forall_eq, false_implies, true_implies,  List.length_nil, List.length_cons, Nat.zero_le, Nat.reduceAdd, Nat.reduceLeDiff, gM5, ldI sh62, hP.b]
      exact h
  · rw [bhm, if_pos q] at h; exact h
end MEASM
