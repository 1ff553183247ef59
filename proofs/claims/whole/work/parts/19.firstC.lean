/-! listing the batches, a new age, the least of all, the first plan -/
def LInv (σ : Mem) (V : Nat → Nat) (n : Nat) : Prop := ∀ S, S ≠ 0 → S < n → σ 53 S = fbw V S ∧ σ 54 S = nI (volS V S)
def fullS (V : Nat → Nat) : Nat := 2 ^ V 9 - 1
def best (m : Nat) (V : Nat → Nat) : Nat := LL m V (fullS V) 3 0
abbrev pB (m : Nat) (V : Nat → Nat) (left g t sp le S : Nat) : Prop := okB V S ∧ S &&& left = S ∧ jn m (jn m sp (part m V S t (t + tk V g (famS V S)))) (LL m V (sd left S) (famS V S) (t + tk V g (famS V S))) ≤ le
def ffR (m : Nat) (V : Nat → Nat) (left g t sp le : Nat) : Nat → Nat → Nat
  | 0, s => s
  | r + 1, s => if pB m V left g t sp le s then s else ffR m V left g t sp le r (s + 1)
def fbS (m : Nat) (V : Nat → Nat) (left g t sp le : Nat) : Nat := ffR m V left g t sp le 128 1
def lfR (m : Nat) (V : Nat → Nat) (le : Nat) : Nat → Nat → Nat → Nat → Nat → (Nat → Nat) → Nat × (Nat → Nat)
  | 0, _, _, _, k, B => (k, B)
  | r + 1, left, g, sp, k, B => if left = 0 then (k, B) else
    lfR m V le r (sd left (fbS m V left g (tmR V B k) sp le)) (famS V (fbS m V left g (tmR V B k) sp le))
      (jn m sp (part m V (fbS m V left g (tmR V B k) sp le) (tmR V B k) (tmR V B k + tk V g (famS V (fbS m V left g (tmR V B k) sp le))))) (k + 1) (upN B k (fbS m V left g (tmR V B k) sp le))
def planP (m : Nat) (V : Nat → Nat) : Nat × (Nat → Nat) := lfR m V (best m V) 7 (fullS V) 3 0 0 (fun _ => 0)
theorem ffR_spec {m : Nat} {V : Nat → Nat} {left g t sp le : Nat} : ∀ r s S, s ≤ S → S < s + r → pB m V left g t sp le S → pB m V left g t sp le (ffR m V left g t sp le r s) ∧ s ≤ ffR m V left g t sp le r s ∧ ffR m V left g t sp le r s ≤ S ∧ ∀ x, s ≤ x → x < ffR m V left g t sp le r s → ¬ pB m V left g t sp le x
  | 0, s, S, h1, h2, _ => by omega
  | r + 1, s, S, h1, h2, h => by
    unfold ffR
    by_cases hs : pB m V left g t sp le s
    · rw [if_pos hs]
      exact ⟨hs, Nat.le_refl _, h1, fun x a b => by omega⟩
    · rw [if_neg hs]
      have hne : s ≠ S := fun q => hs (q ▸ h)
      obtain ⟨a1, a2, a3, a4⟩ := ffR_spec r (s + 1) S (by omega) (by omega) h
      refine ⟨a1, by omega, a3, fun x b1 b2 => ?_⟩
      by_cases hx : x = s
      · subst hx; exact hs
      · exact a4 x (by omega) b2
theorem jn_assoc {m x y z : Nat} : jn m (jn m x y) z = jn m x (jn m y z) := by
  unfold jn
  split
  · exact Nat.max_assoc _ _ _
  · exact Nat.add_assoc _ _ _
theorem fbS_spec {m : Nat} {V : Nat → Nat} (hV : VOk V) {left g t sp le : Nat} (hl : left < 2 ^ V 9) (h0 : left ≠ 0) (h : jn m sp (LL m V left g t) ≤ le) : pB m V left g t sp le (fbS m V left g t sp le) ∧ 1 ≤ fbS m V left g t sp le ∧ fbS m V left g t sp le < 128 ∧ ∀ x, 1 ≤ x → x < fbS m V left g t sp le → ¬ pB m V left g t sp le x := by
  obtain ⟨S, h1, h2, h3⟩ := LL_ex (m := m) hV (g := g) (t := t) hl h0
  have hS := okB_lt hV h1
  have hp : pB m V left g t sp le S := ⟨h1, h2, by rw [jn_assoc]; rw [h3] at h; exact h⟩
  obtain ⟨a1, a2, a3, a4⟩ := ffR_spec (m := m) (V := V) (left := left) (g := g) (t := t) (sp := sp) (le := le) 128 1 S (Nat.pos_of_ne_zero h1.1) (by omega) hp
  exact ⟨a1, a2, by unfold fbS; omega, a4⟩
theorem sd0 : ∀ s, s < 128 → ∀ l, l < 128 → (sd s l = 0 ↔ s &&& l = s) := by decide +kernel
theorem full_lt {V : Nat → Nat} (hV : VOk V) : fullS V < 128 := by
  have := p7 hV.2.2.2.2.1
  have : 1 ≤ 2 ^ V 9 := Nat.one_le_two_pow
  unfold fullS; omega
theorem full_lt2 {V : Nat → Nat} : fullS V < 2 ^ V 9 := by
  have : 1 ≤ 2 ^ V 9 := Nat.one_le_two_pow
  unfold fullS; omega
theorem isPl3 {m : Nat} (hm : m < 4) : IsPl (37 + 3 * m) := by
  obtain rfl | rfl | rfl | rfl : m = 0 ∨ m = 1 ∨ m = 2 ∨ m = 3 := by omega
  · exact isPl37
  · exact isPl40
  · exact isPl43
  · exact isPl46
theorem ld49 {K : Kt} {ls : Lc} {r : List Value} {σ : Mem} {m : Nat} (hm : m < 4) (h : K ls (.ref (37 + 3 * m) :: r) σ) : o_aaload K ls (.int (nI m) :: .ref 49 :: r) σ := by
  refine ⟨Or.inr rfl, vp_in_nI (N := 4) hm (by decide), 37 + 3 * m, ?_, h⟩
  rw [nI_clamp (by omega)]
  obtain rfl | rfl | rfl | rfl : m = 0 ∨ m = 1 ∨ m = 2 ∨ m = 3 := by omega
  all_goals rfl
section FIRSTC
variable {G : Gp} {d : Nat} {Q : Option Value → Mem → Prop} {σ : Mem} {b m ag : Nat} {V B : Nat → Nat}
theorem sp_listBatch {o j : Nat} (hb : IsSh b) (hb0 : 0 < b) (hb1 : b + 5 < 52) (hV : VOk V) (hs : ShAt σ b V) (h0 : σ 52 0 = nI b) (hj : j < V 9) (ho : o < 2 ^ j) (hL : LInv σ V (2 ^ j + o))
    (h : ∀ τ, (∀ a, a ≠ 53 → a ≠ 54 → τ a = σ a) → LInv τ V (2 ^ j + o + 1) → Q none τ) : E G MX2_listBatch d 0 [some (.ref 52), some (.int (nI o)), some (.int (nI j)), none, none, none] [] σ Q := by
  have h7 := hV.2.2.2.2.1
  have hv := hV.2.2.2.2.2.1 j (by omega)
  have hr := hV.2.1
  have h2 : 2 ^ j < 2 ^ 7 := pow_lt (by omega)
  have hor : o ||| 2 ^ j = 2 ^ j + o := by
    rw [Nat.or_comm]
    have := or_add (a := 1) (b := o) (k := j) ho
    simpa using this
  have hlt : 2 ^ j + o < 128 := by rw [← hor]; exact or_top_lt (n := 7) ho (by omega)
  have hvt := volS_top (V := V) ho hj
  have hft := famS_top hV ho hj
  have hkt := okB_top hV ho hj
  rw [hor] at hvt hft hkt
  have hvb := volS_le hV o
  -- the two cells written
  have fin : ∀ (x : Int32), x = fbw V (2 ^ j + o) → Q none (wr (wr σ 53 (2 ^ j + o) x) 54 (2 ^ j + o) (nI (volS V (2 ^ j + o)))) := by
    intro x hx
    refine h _ (fun a q1 q2 => by rw [wr_o q2, wr_o q1]) (fun S hS0 hS => ?_)
    rw [wr_o (show (53 : Nat) ≠ 54 by omega)]
    by_cases hSe : S = 2 ^ j + o
    · subst hSe
      rw [wr_s, wr_s]
      exact ⟨hx, rfl⟩
    · rw [wr_n (by omega), wr_n (by omega), wr_o (by omega)]
      exact hL S hS0 (by omega)
  apply kX2_listBatch_0
  simp (disch := omega) only [ia1, ia2, ia3, ia4, inn, inm, i10, i01, i0n, i1n, i0m, i1m, o_push, o_iload, o_aload, o_istore, o_iinc, o_iadd, o_isub, o_imul, o_iand, o_ior, o_ixor, o_ishl, o_ishr, o_iushr, o_idiv, o_irem, o_ineg, o_dup, o_dup2, o_pop, o_if_eq, o_if_ne, o_if_lt, o_if_ge, o_if_gt, o_if_le, o_icmp_eq, o_icmp_ne, o_icmp_lt, o_icmp_ge, o_icmp_gt, o_icmp_le, o_nonnull, o_lsw2, o_iret, o_zret, o_vret, o_cV0, o_cV1, o_cV2, o_cV3, o_cV4, o_cV5, o_cV6, o_cS1, o_cS2, o_cS3, o_cS4, lg, lset, inB, pushv, c1, okr, at_, List.replicate, true_and, and_true, true_or, or_true, eq_self, forall_const, not_true_eq_false, not_false_eq_true, forall_eq, false_implies, true_implies,  List.length_nil, List.length_cons, Nat.zero_le, Nat.reduceAdd, Nat.reduceLeDiff, n0, n1, shl1, fa_or, hor, gEs h0, gS6 hb, gS7 hb, gS2 hb, ld7 hb.2.2.2.1, ld7 hb.2.2.2.2.1, hs.f, hs.v, hs.room, gE2, gE3, stI sh53, stI sh54, nEq]
  refine ⟨fun q => ?_, fun q => ?_⟩
  · subst q
    have hz : volS V (2 ^ j + 0) = V (17 + j) := by rw [hvt, show volS V 0 = 0 from sumS_zero _, Nat.zero_add]
    rw [← hz]
    refine fin _ ?_
    rw [fbw, if_pos (hkt.mpr (Or.inl rfl)), hft, if_pos rfl]
  · obtain ⟨e1, e2⟩ := hL o q (by omega)
    simp (disch := omega) only [ldI sh53, ldI sh54, e1, e2, nI_add, ia1, ia2, ia3, ia4, inn, inm, i10, i01, i0n, i1n, i0m, i1m, o_push, o_iload, o_aload, o_istore, o_iinc, o_iadd, o_isub, o_imul, o_iand, o_ior, o_ixor, o_ishl, o_ishr, o_iushr, o_idiv, o_irem, o_ineg, o_dup, o_dup2, o_pop, o_if_eq, o_if_ne, o_if_lt, o_if_ge, o_if_gt, o_if_le, o_icmp_eq, o_icmp_ne, o_icmp_lt, o_icmp_ge, o_icmp_gt, o_icmp_le, o_nonnull, o_lsw2, o_iret, o_zret, o_vret, o_cV0, o_cV1, o_cV2, o_cV3, o_cV4, o_cV5, o_cV6, o_cS1, o_cS2, o_cS3, o_cS4, lg, lset, inB, pushv, c1, okr, at_, List.replicate, true_and, and_true, true_or, or_true, eq_self, forall_const, not_true_eq_false, not_false_eq_true, forall_eq, false_implies, true_implies,  List.length_nil, List.length_cons, Nat.zero_le, Nat.reduceAdd, Nat.reduceLeDiff, stI sh53, stI sh54, nLe, gE2, gE3, gEs h0, gS2 hb, hs.room]
    have hz : V (17 + j) + volS V o = volS V (2 ^ j + o) := by rw [hvt]; omega
    rw [hz]
    have hno : ¬ okB V (2 ^ j + o) → (-nI 1) = fbw V (2 ^ j + o) := fun z => by rw [fbw, if_neg z]
    refine ⟨fun q2 => fin _ (hno (fun z => q2 ?_)), fun q2 => ⟨fun q3 => fin _ ?_, fun q3 => fin _ (hno (fun z => ?_))⟩⟩
    · rcases hkt.mp z with z | z
      · exact absurd z q
      · rw [fbw, if_pos z.1, z.2.1]
    · have hok : okB V o := by
        by_cases z : okB V o
        · exact z
        · rw [fbw, if_neg z] at q2
          exact absurd q2.symm (f_neg1 _ (by omega))
      rw [fbw, if_pos hok] at q2
      have hf := (nI_eq (by have := famS_le hV o; omega) (by omega)).mp q2
      rw [fbw, if_pos (hkt.mpr (Or.inr ⟨hok, hf, by omega⟩)), hft, if_neg q, hf]
    · rcases hkt.mp z with z | z
      · exact absurd z q
      · omega
theorem sp_listBatches (hb : IsSh b) (hb0 : 0 < b) (hb1 : b + 5 < 52) (hV : VOk V) (hs : ShAt σ b V) (h0 : σ 52 0 = nI b) (h : ∀ τ, (∀ a, a ≠ 53 → a ≠ 54 → τ a = σ a) → LInv τ V (2 ^ V 9) → Q none τ) :
    E G MX2_listBatches (d + 1) 0 [some (.ref 52), none, none] [] σ Q := by
  have h7 := hV.2.2.2.2.1
  apply kX2_listBatches_0
  simp only [ia1, ia2, ia3, ia4, inn, inm, i10, i01, i0n, i1n, i0m, i1m, o_push, o_iload, o_aload, o_istore, o_iinc, o_iadd, o_isub, o_imul, o_iand, o_ior, o_ixor, o_ishl, o_ishr, o_iushr, o_idiv, o_irem, o_ineg, o_dup, o_dup2, o_pop, o_if_eq, o_if_ne, o_if_lt, o_if_ge, o_if_gt, o_if_le, o_icmp_eq, o_icmp_ne, o_icmp_lt, o_icmp_ge, o_icmp_gt, o_icmp_le, o_nonnull, o_lsw2, o_iret, o_zret, o_vret, o_cV0, o_cV1, o_cV2, o_cV3, o_cV4, o_cV5, o_cV6, o_cS1, o_cS2, o_cS3, o_cS4, lg, lset, inB, pushv, c1, okr, at_, List.replicate, true_and, and_true, true_or, or_true, eq_self, forall_const, not_true_eq_false, not_false_eq_true, forall_eq, false_implies, true_implies,  List.length_nil, List.length_cons, Nat.zero_le, Nat.reduceAdd, Nat.reduceLeDiff, n0]
  suffices H : ∀ k j (τ : Mem) (x : Option Value), k + j = V 9 → (∀ a, a ≠ 53 → a ≠ 54 → τ a = σ a) → LInv τ V (2 ^ j) → E G MX2_listBatches (d + 1) 2 [some (.ref 52), some (.int (nI j)), x] [] τ Q from
    H (V 9) 0 σ _ (by omega) (fun _ _ _ => rfl) (fun S h1 h2 => by simp at h2; omega)
  intro k
  induction k with
  | zero =>
    intro j τ x hj hfr hL
    obtain rfl : j = V 9 := by omega
    have ht0 : τ 52 0 = nI b := by rw [hfr 52 (by omega) (by omega)]; exact h0
    have hst : ShAt τ b V := hs.fr (fun a _ _ => hfr a (by omega) (by omega))
    apply kX2_listBatches_2
    simp (disch := omega) only [ia1, ia2, ia3, ia4, inn, inm, i10, i01, i0n, i1n, i0m, i1m, o_push, o_iload, o_aload, o_istore, o_iinc, o_iadd, o_isub, o_imul, o_iand, o_ior, o_ixor, o_ishl, o_ishr, o_iushr, o_idiv, o_irem, o_ineg, o_dup, o_dup2, o_pop, o_if_eq, o_if_ne, o_if_lt, o_if_ge, o_if_gt, o_if_le, o_icmp_eq, o_icmp_ne, o_icmp_lt, o_icmp_ge, o_icmp_gt, o_icmp_le, o_nonnull, o_lsw2, o_iret, o_zret, o_vret, o_cV0, o_cV1, o_cV2, o_cV3, o_cV4, o_cV5, o_cV6, o_cS1, o_cS2, o_cS3, o_cS4, lg, lset, inB, pushv, c1, okr, at_, List.replicate, true_and, and_true, true_or, or_true, eq_self, forall_const, not_true_eq_false, not_false_eq_true, forall_eq, false_implies, true_implies,  List.length_nil, List.length_cons, Nat.zero_le, Nat.reduceAdd, Nat.reduceLeDiff, gEs ht0, gS5 hb, hst.n, nLe, Nat.le_refl]
    exact h τ hfr hL
  | succ k ih =>
    intro j τ x hj hfr hL
    have ht0 : τ 52 0 = nI b := by rw [hfr 52 (by omega) (by omega)]; exact h0
    have hst : ShAt τ b V := hs.fr (fun a _ _ => hfr a (by omega) (by omega))
    have h2 : 2 ^ j < 2 ^ 7 := pow_lt (by omega)
    apply kX2_listBatches_2
    simp (disch := omega) only [ia1, ia2, ia3, ia4, inn, inm, i10, i01, i0n, i1n, i0m, i1m, o_push, o_iload, o_aload, o_istore, o_iinc, o_iadd, o_isub, o_imul, o_iand, o_ior, o_ixor, o_ishl, o_ishr, o_iushr, o_idiv, o_irem, o_ineg, o_dup, o_dup2, o_pop, o_if_eq, o_if_ne, o_if_lt, o_if_ge, o_if_gt, o_if_le, o_icmp_eq, o_icmp_ne, o_icmp_lt, o_icmp_ge, o_icmp_gt, o_icmp_le, o_nonnull, o_lsw2, o_iret, o_zret, o_vret, o_cV0, o_cV1, o_cV2, o_cV3, o_cV4, o_cV5, o_cV6, o_cS1, o_cS2, o_cS3, o_cS4, lg, lset, inB, pushv, c1, okr, at_, List.replicate, true_and, and_true, true_or, or_true, eq_self, forall_const, not_true_eq_false, not_false_eq_true, forall_eq, false_implies, true_implies,  List.length_nil, List.length_cons, Nat.zero_le, Nat.reduceAdd, Nat.reduceLeDiff, gEs ht0, gS5 hb, hst.n, nLe, n0]
    refine ⟨fun q => absurd q (by omega), fun _ => ?_⟩
    suffices H : ∀ r o (τ : Mem), r + o = 2 ^ j → (∀ a, a ≠ 53 → a ≠ 54 → τ a = σ a) → LInv τ V (2 ^ j + o) → E G MX2_listBatches (d + 1) 15 [some (.ref 52), some (.int (nI j)), some (.int (nI o))] [] τ Q from
      H (2 ^ j) 0 τ (by omega) hfr hL
    intro r
    induction r with
    | zero =>
      intro o τ ho hfr hL
      apply kX2_listBatches_15
      simp (disch := omega) only [ia1, ia2, ia3, ia4, inn, inm, i10, i01, i0n, i1n, i0m, i1m, o_push, o_iload, o_aload, o_istore, o_iinc, o_iadd, o_isub, o_imul, o_iand, o_ior, o_ixor, o_ishl, o_ishr, o_iushr, o_idiv, o_irem, o_ineg, o_dup, o_dup2, o_pop, o_if_eq, o_if_ne, o_if_lt, o_if_ge, o_if_gt, o_if_le, o_icmp_eq, o_icmp_ne, o_icmp_lt, o_icmp_ge, o_icmp_gt, o_icmp_le, o_nonnull, o_lsw2, o_iret, o_zret, o_vret, o_cV0, o_cV1, o_cV2, o_cV3, o_cV4, o_cV5, o_cV6, o_cS1, o_cS2, o_cS3, o_cS4, lg, lset, inB, pushv, c1, okr, at_, List.replicate, true_and, and_true, true_or, or_true, eq_self, forall_const, not_true_eq_false, not_false_eq_true, forall_eq, false_implies, true_implies,  List.length_nil, List.length_cons, Nat.zero_le, Nat.reduceAdd, Nat.reduceLeDiff, n1, shl1, nLe, nI_add]
      refine ⟨fun _ => ih (j + 1) τ _ (by omega) hfr ?_, fun q => absurd (by omega) q⟩
      rw [show 2 ^ (j + 1) = 2 ^ j + o by rw [Nat.pow_succ]; omega]
      exact hL
    | succ r ihr =>
      intro o τ ho hfr hL
      have ht0 : τ 52 0 = nI b := by rw [hfr 52 (by omega) (by omega)]; exact h0
      have hst : ShAt τ b V := hs.fr (fun a _ _ => hfr a (by omega) (by omega))
      apply kX2_listBatches_15
      simp (disch := omega) only [ia1, ia2, ia3, ia4, inn, inm, i10, i01, i0n, i1n, i0m, i1m, o_push, o_iload, o_aload, o_istore, o_iinc, o_iadd, o_isub, o_imul, o_iand, o_ior, o_ixor, o_ishl, o_ishr, o_iushr, o_idiv, o_irem, o_ineg, o_dup, o_dup2, o_pop, o_if_eq, o_if_ne, o_if_lt, o_if_ge, o_if_gt, o_if_le, o_icmp_eq, o_icmp_ne, o_icmp_lt, o_icmp_ge, o_icmp_gt, o_icmp_le, o_nonnull, o_lsw2, o_iret, o_zret, o_vret, o_cV0, o_cV1, o_cV2, o_cV3, o_cV4, o_cV5, o_cV6, o_cS1, o_cS2, o_cS3, o_cS4, lg, lset, inB, pushv, c1, okr, at_, List.replicate, true_and, and_true, true_or, or_true, eq_self, forall_const, not_true_eq_false, not_false_eq_true, forall_eq, false_implies, true_implies,  List.length_nil, List.length_cons, Nat.zero_le, Nat.reduceAdd, Nat.reduceLeDiff, n1, shl1, nLe, nI_add, sh52k]
      refine ⟨fun q => absurd q (by omega), fun _ => sp_listBatch hb hb0 hb1 hV hst ht0 (by omega) (by omega) hL (fun τ2 f2 hL2 => ?_)⟩
      simp only [ia1, ia2, ia3, ia4, inn, inm, i10, i01, i0n, i1n, i0m, i1m, o_push, o_iload, o_aload, o_istore, o_iinc, o_iadd, o_isub, o_imul, o_iand, o_ior, o_ixor, o_ishl, o_ishr, o_iushr, o_idiv, o_irem, o_ineg, o_dup, o_dup2, o_pop, o_if_eq, o_if_ne, o_if_lt, o_if_ge, o_if_gt, o_if_le, o_icmp_eq, o_icmp_ne, o_icmp_lt, o_icmp_ge, o_icmp_gt, o_icmp_le, o_nonnull, o_lsw2, o_iret, o_zret, o_vret, o_cV0, o_cV1, o_cV2, o_cV3, o_cV4, o_cV5, o_cV6, o_cS1, o_cS2, o_cS3, o_cS4, lg, lset, inB, pushv, c1, okr, at_, List.replicate, true_and, and_true, true_or, or_true, eq_self, forall_const, not_true_eq_false, not_false_eq_true, forall_eq, false_implies, true_implies,  List.length_nil, List.length_cons, Nat.zero_le, Nat.reduceAdd, Nat.reduceLeDiff, n1, nI_add]
      exact ihr (o + 1) τ2 (by omega) (fun a q1 q2 => by rw [f2 a q1 q2]; exact hfr a q1 q2) hL2
theorem sp_fill (h : ∀ τ, (∀ a, a ≠ 55 → τ a = σ a) → (∀ i, i < 2048 → τ 55 i = 0) → Q none τ) : E G MJ7_fill_53178 d 0 [some (.ref 55), some (.int 0), none, none] [] σ Q := by
  apply kJ7_fill_53178_0
  simp only [ia1, ia2, ia3, ia4, inn, inm, i10, i01, i0n, i1n, i0m, i1m, o_push, o_iload, o_aload, o_istore, o_iinc, o_iadd, o_isub, o_imul, o_iand, o_ior, o_ixor, o_ishl, o_ishr, o_iushr, o_idiv, o_irem, o_ineg, o_dup, o_dup2, o_pop, o_if_eq, o_if_ne, o_if_lt, o_if_ge, o_if_gt, o_if_le, o_icmp_eq, o_icmp_ne, o_icmp_lt, o_icmp_ge, o_icmp_gt, o_icmp_le, o_nonnull, o_lsw2, o_iret, o_zret, o_vret, o_cV0, o_cV1, o_cV2, o_cV3, o_cV4, o_cV5, o_cV6, o_cS1, o_cS2, o_cS3, o_cS4, lg, lset, inB, pushv, c1, okr, at_, List.replicate, true_and, and_true, true_or, or_true, eq_self, forall_const, not_true_eq_false, not_false_eq_true, forall_eq, false_implies, true_implies,  List.length_nil, List.length_cons, Nat.zero_le, Nat.reduceAdd, Nat.reduceLeDiff, o_alen, sh55, shI]
  suffices H : ∀ k j (τ : Mem), k + j = 2048 → (∀ a, a ≠ 55 → τ a = σ a) → (∀ i, i < j → τ 55 i = 0) → E G MJ7_fill_53178 d 5 [some (.ref 55), some (.int 0), some (.int (nI j)), some (.int (nI 2048))] [] τ Q by
    rw [n0]
    exact H 2048 0 σ (by omega) (fun _ _ => rfl) (fun i hi => by omega)
  intro k
  induction k with
  | zero =>
    intro j τ hj hfr hz
    obtain rfl : j = 2048 := by omega
    apply kJ7_fill_53178_5
    simp (disch := omega) only [ia1, ia2, ia3, ia4, inn, inm, i10, i01, i0n, i1n, i0m, i1m, o_push, o_iload, o_aload, o_istore, o_iinc, o_iadd, o_isub, o_imul, o_iand, o_ior, o_ixor, o_ishl, o_ishr, o_iushr, o_idiv, o_irem, o_ineg, o_dup, o_dup2, o_pop, o_if_eq, o_if_ne, o_if_lt, o_if_ge, o_if_gt, o_if_le, o_icmp_eq, o_icmp_ne, o_icmp_lt, o_icmp_ge, o_icmp_gt, o_icmp_le, o_nonnull, o_lsw2, o_iret, o_zret, o_vret, o_cV0, o_cV1, o_cV2, o_cV3, o_cV4, o_cV5, o_cV6, o_cS1, o_cS2, o_cS3, o_cS4, lg, lset, inB, pushv, c1, okr, at_, List.replicate, true_and, and_true, true_or, or_true, eq_self, forall_const, not_true_eq_false, not_false_eq_true, forall_eq, false_implies, true_implies,  List.length_nil, List.length_cons, Nat.zero_le, Nat.reduceAdd, Nat.reduceLeDiff, nLe, Nat.le_refl]
    exact h τ hfr hz
  | succ k ih =>
    intro j τ hj hfr hz
    apply kJ7_fill_53178_5
    simp (disch := omega) only [ia1, ia2, ia3, ia4, inn, inm, i10, i01, i0n, i1n, i0m, i1m, o_push, o_iload, o_aload, o_istore, o_iinc, o_iadd, o_isub, o_imul, o_iand, o_ior, o_ixor, o_ishl, o_ishr, o_iushr, o_idiv, o_irem, o_ineg, o_dup, o_dup2, o_pop, o_if_eq, o_if_ne, o_if_lt, o_if_ge, o_if_gt, o_if_le, o_icmp_eq, o_icmp_ne, o_icmp_lt, o_icmp_ge, o_icmp_gt, o_icmp_le, o_nonnull, o_lsw2, o_iret, o_zret, o_vret, o_cV0, o_cV1, o_cV2, o_cV3, o_cV4, o_cV5, o_cV6, o_cS1, o_cS2, o_cS3, o_cS4, lg, lset, inB, pushv, c1, okr, at_, List.replicate, true_and, and_true, true_or, or_true, eq_self, forall_const, not_true_eq_false, not_false_eq_true, forall_eq, false_implies, true_implies,  List.length_nil, List.length_cons, Nat.zero_le, Nat.reduceAdd, Nat.reduceLeDiff, nLe, stI sh55, nI_1]
    refine ⟨fun q => absurd q (by omega), fun _ => ih (j + 1) _ (by omega) (fun a q => by rw [wr_o q]; exact hfr a q) (fun i hi => ?_)⟩
    by_cases hij : i = j
    · subst hij; exact wr_s
    · rw [wr_n (by omega)]; exact hz i (by omega)
theorem sp_forgetFinds (hK : KOld σ ag) (h : ∀ (τ : Mem) (ag' : Nat), (∀ a, a ≠ 52 → a ≠ 55 → τ a = σ a) → (∀ i, i ≠ 4 → τ 52 i = σ 52 i) → τ 52 4 = nI ag' → 1 ≤ ag' → ag' ≤ 8191 → (∀ i, i < 2048 → ∃ x, τ 55 i = nI x ∧ x < 2147483648 ∧ x / 262144 < ag') → Q none τ) :
    E G MX2_forgetFinds (d + 1) 0 [some (.ref 52)] [] σ Q := by
  obtain ⟨h4, ha, hk⟩ := hK
  have e81 : (8191 : Int32) = nI 8191 := by decide +kernel
  apply kX2_forgetFinds_0
  simp (disch := omega) only [ia1, ia2, ia3, ia4, inn, inm, i10, i01, i0n, i1n, i0m, i1m, o_push, o_iload, o_aload, o_istore, o_iinc, o_iadd, o_isub, o_imul, o_iand, o_ior, o_ixor, o_ishl, o_ishr, o_iushr, o_idiv, o_irem, o_ineg, o_dup, o_dup2, o_pop, o_if_eq, o_if_ne, o_if_lt, o_if_ge, o_if_gt, o_if_le, o_icmp_eq, o_icmp_ne, o_icmp_lt, o_icmp_ge, o_icmp_gt, o_icmp_le, o_nonnull, o_lsw2, o_iret, o_zret, o_vret, o_cV0, o_cV1, o_cV2, o_cV3, o_cV4, o_cV5, o_cV6, o_cS1, o_cS2, o_cS3, o_cS4, lg, lset, inB, pushv, c1, okr, at_, List.replicate, true_and, and_true, true_or, or_true, eq_self, forall_const, not_true_eq_false, not_false_eq_true, forall_eq, false_implies, true_implies,  List.length_nil, List.length_cons, Nat.zero_le, Nat.reduceAdd, Nat.reduceLeDiff, gE4, pE4, h4, n1, nI_add, wr_s, e81, nLe, gE5]
  refine ⟨fun q => ?_, fun q => ?_⟩
  · refine h _ (ag + 1) (fun a q1 q2 => wr_o q1) (fun i hi => wr_n (by omega)) wr_s (by omega) (by omega) (fun i hi => ?_)
    rw [wr_o (by omega)]
    obtain ⟨x, a1, a2, a3⟩ := hk i hi
    exact ⟨x, a1, a2, by omega⟩
  · refine sp_fill (fun τ f hz => ?_)
    simp only [ia1, ia2, ia3, ia4, inn, inm, i10, i01, i0n, i1n, i0m, i1m, o_push, o_iload, o_aload, o_istore, o_iinc, o_iadd, o_isub, o_imul, o_iand, o_ior, o_ixor, o_ishl, o_ishr, o_iushr, o_idiv, o_irem, o_ineg, o_dup, o_dup2, o_pop, o_if_eq, o_if_ne, o_if_lt, o_if_ge, o_if_gt, o_if_le, o_icmp_eq, o_icmp_ne, o_icmp_lt, o_icmp_ge, o_icmp_gt, o_icmp_le, o_nonnull, o_lsw2, o_iret, o_zret, o_vret, o_cV0, o_cV1, o_cV2, o_cV3, o_cV4, o_cV5, o_cV6, o_cS1, o_cS2, o_cS3, o_cS4, lg, lset, inB, pushv, c1, okr, at_, List.replicate, true_and, and_true, true_or, or_true, eq_self, forall_const, not_true_eq_false, not_false_eq_true, forall_eq, false_implies, true_implies,  List.length_nil, List.length_cons, Nat.zero_le, Nat.reduceAdd, Nat.reduceLeDiff, pE4, n1]
    refine h _ 1 (fun a q1 q2 => by rw [wr_o q1, f a q2, wr_o q1]) (fun i hi => by rw [wr_n (by omega), f 52 (by omega), wr_n (by omega)]) wr_s (by omega) (by omega) (fun i hi => ⟨0, ?_, by omega, by omega⟩)
    rw [wr_o (by omega), hz i hi]; exact n0
theorem sp_leastOf (hb : IsSh b) (hb0 : 0 < b) (hb1 : b + 5 < 52) (hV : VOk V) (hm : m < 4) (hs : ShAt σ b V) (hK : KOld σ ag)
    (h : ∀ (τ : Mem) (ag' : Nat), (∀ a, a < 52 ∨ 56 < a → τ a = σ a) → SInv τ b m V ag' → Q (some (.int (nI (best m V)))) τ) : E G MX2_leastOf (d + 11) 0 [some (.ref 52), some (.ref b), some (.int (nI m))] [] σ Q := by
  have h7 := hV.2.2.2.2.1
  have hf := full_lt hV
  apply kX2_leastOf_0
  simp (disch := omega) only [ia1, ia2, ia3, ia4, inn, inm, i10, i01, i0n, i1n, i0m, i1m, o_push, o_iload, o_aload, o_istore, o_iinc, o_iadd, o_isub, o_imul, o_iand, o_ior, o_ixor, o_ishl, o_ishr, o_iushr, o_idiv, o_irem, o_ineg, o_dup, o_dup2, o_pop, o_if_eq, o_if_ne, o_if_lt, o_if_ge, o_if_gt, o_if_le, o_icmp_eq, o_icmp_ne, o_icmp_lt, o_icmp_ge, o_icmp_gt, o_icmp_le, o_nonnull, o_lsw2, o_iret, o_zret, o_vret, o_cV0, o_cV1, o_cV2, o_cV3, o_cV4, o_cV5, o_cV6, o_cS1, o_cS2, o_cS3, o_cS4, lg, lset, inB, pushv, c1, okr, at_, List.replicate, true_and, and_true, true_or, or_true, eq_self, forall_const, not_true_eq_false, not_false_eq_true, forall_eq, false_implies, true_implies,  List.length_nil, List.length_cons, Nat.zero_le, Nat.reduceAdd, Nat.reduceLeDiff, pE0, pE1, sh52k]
  generalize hσ1 : wr (wr σ 52 0 (nI b)) 52 1 (nI m) = σ1
  have f1 : ∀ a, a ≠ 52 → σ1 a = σ a := fun a q => by rw [← hσ1, wr_o q, wr_o q]
  have a0 : σ1 52 0 = nI b := by rw [← hσ1, wr_n (by omega), wr_s]
  have a1 : σ1 52 1 = nI m := by rw [← hσ1, wr_s]
  have a4 : σ1 52 4 = σ 52 4 := by rw [← hσ1, wr_n (by omega), wr_n (by omega)]
  have hs1 : ShAt σ1 b V := hs.fr (fun a _ _ => f1 a (by omega))
  refine sp_listBatches hb hb0 hb1 hV hs1 a0 (fun σ2 f2 hL => ?_)
  simp only [ia1, ia2, ia3, ia4, inn, inm, i10, i01, i0n, i1n, i0m, i1m, o_push, o_iload, o_aload, o_istore, o_iinc, o_iadd, o_isub, o_imul, o_iand, o_ior, o_ixor, o_ishl, o_ishr, o_iushr, o_idiv, o_irem, o_ineg, o_dup, o_dup2, o_pop, o_if_eq, o_if_ne, o_if_lt, o_if_ge, o_if_gt, o_if_le, o_icmp_eq, o_icmp_ne, o_icmp_lt, o_icmp_ge, o_icmp_gt, o_icmp_le, o_nonnull, o_lsw2, o_iret, o_zret, o_vret, o_cV0, o_cV1, o_cV2, o_cV3, o_cV4, o_cV5, o_cV6, o_cS1, o_cS2, o_cS3, o_cS4, lg, lset, inB, pushv, c1, okr, at_, List.replicate, true_and, and_true, true_or, or_true, eq_self, forall_const, not_true_eq_false, not_false_eq_true, forall_eq, false_implies, true_implies,  List.length_nil, List.length_cons, Nat.zero_le, Nat.reduceAdd, Nat.reduceLeDiff, sh52k]
  have hK2 : KOld σ2 ag := by
    obtain ⟨k1, k2, k3⟩ := hK
    refine ⟨by rw [f2 52 (by omega) (by omega), a4]; exact k1, k2, fun i hi => ?_⟩
    rw [f2 55 (by omega) (by omega), f1 55 (by omega)]
    exact k3 i hi
  refine sp_forgetFinds hK2 (fun σ3 ag' f3 f3' b4 hag1 hag2 hk3 => ?_)
  have hs3 : ShAt σ3 b V := hs1.fr (fun a _ _ => by rw [f3 a (by omega) (by omega), f2 a (by omega) (by omega)])
  have b0 : σ3 52 0 = nI b := by rw [f3' 0 (by omega), f2 52 (by omega) (by omega)]; exact a0
  have b1 : σ3 52 1 = nI m := by rw [f3' 1 (by omega), f2 52 (by omega) (by omega)]; exact a1
  have hI3 : SInv σ3 b m V ag' := by
    refine ⟨b0, b1, b4, hag1, hag2, fun S hS hS0 => ?_, fun i hi => ?_⟩
    · rw [f3 53 (by omega) (by omega)]; exact (hL S hS0 hS).1
    · obtain ⟨x, c1, c2, c3⟩ := hk3 i hi
      exact ⟨x, c1, c2, by omega, fun z => by omega⟩
  simp (disch := omega) only [ia1, ia2, ia3, ia4, inn, inm, i10, i01, i0n, i1n, i0m, i1m, o_push, o_iload, o_aload, o_istore, o_iinc, o_iadd, o_isub, o_imul, o_iand, o_ior, o_ixor, o_ishl, o_ishr, o_iushr, o_idiv, o_irem, o_ineg, o_dup, o_dup2, o_pop, o_if_eq, o_if_ne, o_if_lt, o_if_ge, o_if_gt, o_if_le, o_icmp_eq, o_icmp_ne, o_icmp_lt, o_icmp_ge, o_icmp_gt, o_icmp_le, o_nonnull, o_lsw2, o_iret, o_zret, o_vret, o_cV0, o_cV1, o_cV2, o_cV3, o_cV4, o_cV5, o_cV6, o_cS1, o_cS2, o_cS3, o_cS4, lg, lset, inB, pushv, c1, okr, at_, List.replicate, true_and, and_true, true_or, or_true, eq_self, forall_const, not_true_eq_false, not_false_eq_true, forall_eq, false_implies, true_implies,  List.length_nil, List.length_cons, Nat.zero_le, Nat.reduceAdd, Nat.reduceLeDiff, gEs b0, hb.k]
  refine sp_everyJob hb hV hs3 ?_
  simp only [ia1, ia2, ia3, ia4, inn, inm, i10, i01, i0n, i1n, i0m, i1m, o_push, o_iload, o_aload, o_istore, o_iinc, o_iadd, o_isub, o_imul, o_iand, o_ior, o_ixor, o_ishl, o_ishr, o_iushr, o_idiv, o_irem, o_ineg, o_dup, o_dup2, o_pop, o_if_eq, o_if_ne, o_if_lt, o_if_ge, o_if_gt, o_if_le, o_icmp_eq, o_icmp_ne, o_icmp_lt, o_icmp_ge, o_icmp_gt, o_icmp_le, o_nonnull, o_lsw2, o_iret, o_zret, o_vret, o_cV0, o_cV1, o_cV2, o_cV3, o_cV4, o_cV5, o_cV6, o_cS1, o_cS2, o_cS3, o_cS4, lg, lset, inB, pushv, c1, okr, at_, List.replicate, true_and, and_true, true_or, or_true, eq_self, forall_const, not_true_eq_false, not_false_eq_true, forall_eq, false_implies, true_implies,  List.length_nil, List.length_cons, Nat.zero_le, Nat.reduceAdd, Nat.reduceLeDiff, n3, n0, sh52k]
  refine sp_leastLeft (d := d) hb hb0 hb1 hV hm 7 (fullS V) 3 0 0 σ3 _ (pc_7 _ hf) full_lt2 (by omega) (by have := pc_7 _ hf; omega) (by have := pc_7 _ hf; omega) hs3 hI3 (fun τ f4 hI4 => ?_)
  simp only [ia1, ia2, ia3, ia4, inn, inm, i10, i01, i0n, i1n, i0m, i1m, o_push, o_iload, o_aload, o_istore, o_iinc, o_iadd, o_isub, o_imul, o_iand, o_ior, o_ixor, o_ishl, o_ishr, o_iushr, o_idiv, o_irem, o_ineg, o_dup, o_dup2, o_pop, o_if_eq, o_if_ne, o_if_lt, o_if_ge, o_if_gt, o_if_le, o_icmp_eq, o_icmp_ne, o_icmp_lt, o_icmp_ge, o_icmp_gt, o_icmp_le, o_nonnull, o_lsw2, o_iret, o_zret, o_vret, o_cV0, o_cV1, o_cV2, o_cV3, o_cV4, o_cV5, o_cV6, o_cS1, o_cS2, o_cS3, o_cS4, lg, lset, inB, pushv, c1, okr, at_, List.replicate, true_and, and_true, true_or, or_true, eq_self, forall_const, not_true_eq_false, not_false_eq_true, forall_eq, false_implies, true_implies,  List.length_nil, List.length_cons, Nat.zero_le, Nat.reduceAdd, Nat.reduceLeDiff]
  exact h τ ag' (fun a q => by rw [f4 a (by omega) (by omega), f3 a (by omega) (by omega), f2 a (by omega) (by omega), f1 a (by omega)]) hI4
end FIRSTC
