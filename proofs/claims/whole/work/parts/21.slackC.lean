/-! how BEST goes with one DUE -/
theorem ag_ht {V V' : Nat → Nat} (h : ∀ k, k < 24 → V k = V' k) (f : Nat) : ht V f = ht V' f := by
  unfold ht; split
  · exact h f (by omega)
  · rfl
theorem ag_ck {V V' : Nat → Nat} (h : ∀ k, k < 24 → V k = V' k) (f : Nat) : ck V f = ck V' f := by
  unfold ck; split
  · exact h (3 + f) (by omega)
  · rfl
theorem ag_tk {V V' : Nat → Nat} (h : ∀ k, k < 24 → V k = V' k) (g f : Nat) : tk V g f = tk V' g f := by
  unfold tk
  rw [ag_ht h, ag_ht h, ag_ck h, h 7 (by omega), h 8 (by omega)]
theorem ag_famR {V V' : Nat → Nat} (h : ∀ k, k < 24 → V k = V' k) (S : Nat) : ∀ n, n ≤ 7 → famR V S n = famR V' S n
  | 0, _ => rfl
  | n + 1, hn => by simp only [famR, ag_famR h S n (by omega), h (10 + n) (by omega)]
theorem ag_famS {V V' : Nat → Nat} (h : ∀ k, k < 24 → V k = V' k) (h9 : V 9 ≤ 7) (S : Nat) : famS V S = famS V' S := by
  unfold famS
  rw [ag_famR h S _ h9, h 9 (by omega)]
theorem ag_sum {V V' : Nat → Nat} (h : ∀ k, k < 24 → V k = V' k) (S : Nat) : ∀ n, n ≤ 7 → sumS (fun j => V (17 + j)) S n = sumS (fun j => V' (17 + j)) S n
  | 0, _ => rfl
  | n + 1, hn => by simp only [sumS, ag_sum h S n (by omega), h (17 + n) (by omega)]
theorem ag_volS {V V' : Nat → Nat} (h : ∀ k, k < 24 → V k = V' k) (h9 : V 9 ≤ 7) (S : Nat) : volS V S = volS V' S := by
  unfold volS
  rw [ag_sum h S _ h9, h 9 (by omega)]
theorem ag_okB {V V' : Nat → Nat} (h : ∀ k, k < 24 → V k = V' k) (h9 : V 9 ≤ 7) (S : Nat) : okB V S ↔ okB V' S := by
  unfold okB
  rw [ag_volS h h9, ag_famS h h9, h 9 (by omega), h 6 (by omega)]
  have h9' := h 9 (by omega)
  constructor
  · rintro ⟨a, b, c, e⟩
    exact ⟨a, b, fun j hj hb => by rw [← h (10 + j) (by omega)]; exact c j hj hb, e⟩
  · rintro ⟨a, b, c, e⟩
    exact ⟨a, b, fun j hj hb => by rw [h (10 + j) (by omega)]; exact c j hj hb, e⟩
/-- dues are not asked by measures 2 and 3 -/
theorem ag_Lm {m : Nat} {V V' : Nat → Nat} (hm : 2 ≤ m) (hm4 : m < 4) (h : ∀ k, k < 24 → V k = V' k) (h9 : V 9 ≤ 7) : ∀ k left g t, Lm m V k left g t = Lm m V' k left g t
  | 0, _, _, _ => rfl
  | k + 1, left, g, t => by
    unfold Lm
    split
    · rfl
    · congr 2
      funext S
      by_cases hS : okB V S ∧ S &&& left = S
      · rw [if_pos hS, if_pos ⟨(ag_okB h h9 S).mp hS.1, hS.2⟩]
        congr 1
        unfold cand
        rw [ag_Lm hm hm4 h h9 k, ag_famS h h9, ag_tk h]
        congr 1
        unfold part
        split
        · rfl
        · have h3 : m = 3 := by omega
          rw [if_pos h3, if_pos h3]
      · rw [if_neg hS, if_neg (fun z => hS ⟨(ag_okB h h9 S).mpr z.1, z.2⟩)]
theorem upN_ag (V : Nat → Nat) (j x : Nat) : ∀ k, k < 24 → upN V (24 + j) x k = V k := fun k hk => by unfold upN; rw [if_neg (by omega)]
theorem upN_ag2 (V : Nat → Nat) (j x y : Nat) : ∀ k, k < 24 → upN V (24 + j) x k = upN V (24 + j) y k := fun k hk => by rw [upN_ag V j x k hk, upN_ag V j y k hk]
theorem VOk_due {V : Nat → Nat} (h : VOk V) {j x : Nat} (hj : j < 7) (hx : x ≤ 99) : VOk (upN V (24 + j) x) := by
  have e := upN_ag V j x
  obtain ⟨h1, h2, h3, h4, h5, h6, h8⟩ := h
  refine ⟨fun f hf => ?_, ?_, ?_, ?_, ?_, fun i hi => ?_, fun i hi => ?_⟩
  · rw [e f (by omega), e (3 + f) (by omega)]; exact h1 f hf
  · rw [e 6 (by omega)]; exact h2
  · rw [e 7 (by omega)]; exact h3
  · rw [e 8 (by omega)]; exact h4
  · rw [e 9 (by omega)]; exact h5
  · rw [e (10 + i) (by omega), e (17 + i) (by omega)]
    refine ⟨(h6 i hi).1, (h6 i hi).2.1, ?_⟩
    unfold upN
    split
    · exact hx
    · exact (h6 i hi).2.2
  · rw [e 9 (by omega)] at hi
    rw [e (17 + i) (by omega)]; exact h8 i hi
theorem jn_mono {m x y x' y' : Nat} (h1 : x ≤ x') (h2 : y ≤ y') : jn m x y ≤ jn m x' y' := by
  unfold jn
  split
  · exact Nat.max_le.mpr ⟨Nat.le_trans h1 (Nat.le_max_left _ _), Nat.le_trans h2 (Nat.le_max_right _ _)⟩
  · omega
theorem jn_lip {m x y x' y' a b : Nat} (h1 : x ≤ x' + a) (h2 : y ≤ y' + b) : jn m x y ≤ jn m x' y' + (a + b) := by
  unfold jn
  split
  · have h3 := Nat.le_max_left x' y'
    have h4 := Nat.le_max_right x' y'
    exact Nat.max_le.mpr ⟨by omega, by omega⟩
  · omega
theorem late_mono {m : Nat} {V : Nat → Nat} {j x y S e : Nat} (hxy : x ≤ y) : ∀ n, lateR m (upN V (24 + j) y) S e n ≤ lateR m (upN V (24 + j) x) S e n
  | 0 => Nat.le_refl _
  | n + 1 => by
    have ih := late_mono (m := m) (V := V) (j := j) (S := S) (e := e) hxy n
    unfold lateR
    split
    · refine jn_mono ih ?_
      unfold upN
      split <;> omega
    · exact ih
theorem late_lip {m : Nat} {V : Nat → Nat} {j x y S e : Nat} (hxy : x ≤ y) : ∀ n, lateR m (upN V (24 + j) x) S e n ≤ lateR m (upN V (24 + j) y) S e n + (if j < n ∧ S.testBit j = true then y - x else 0)
  | 0 => Nat.zero_le _
  | n + 1 => by
    have ih := late_lip (m := m) (V := V) (j := j) (S := S) (e := e) hxy n
    unfold lateR
    by_cases hn : n = j
    · subst hn
      rw [if_neg (by omega)] at ih
      by_cases hb : S.testBit n = true
      · rw [if_pos hb, if_pos hb, if_pos ⟨by omega, hb⟩]
        have := jn_lip (m := m) (x := lateR m (upN V (24 + n) x) S e n) (y := e - upN V (24 + n) x (24 + n)) (x' := lateR m (upN V (24 + n) y) S e n) (y' := e - upN V (24 + n) y (24 + n)) (a := 0) (b := y - x) ih (by unfold upN; rw [if_pos rfl, if_pos rfl]; omega)
        omega
      · rw [if_neg hb, if_neg hb, if_neg (fun z => hb z.2)]
        exact ih
    · have e1 : (if j < n + 1 ∧ S.testBit j = true then y - x else 0) = (if j < n ∧ S.testBit j = true then y - x else 0) := by
        by_cases hz : j < n ∧ S.testBit j = true
        · rw [if_pos hz, if_pos ⟨by omega, hz.2⟩]
        · rw [if_neg hz, if_neg (fun w => hz ⟨by omega, w.2⟩)]
      rw [e1]
      split
      · have := jn_lip (m := m) (x := lateR m (upN V (24 + j) x) S e n) (y := e - upN V (24 + j) x (24 + n)) (x' := lateR m (upN V (24 + j) y) S e n) (y' := e - upN V (24 + j) y (24 + n)) (b := 0) ih (by unfold upN; rw [if_neg (by omega), if_neg (by omega)]; omega)
        omega
      · exact ih
theorem sd_bit {l s j : Nat} (hj : j < 7) : (sd l s).testBit j = (l.testBit j && !s.testBit j) := by
  unfold sd
  rw [Nat.testBit_and, Nat.testBit_xor]
  have : ∀ j, j < 7 → (127 : Nat).testBit j = true := by decide
  rw [this j hj]
  cases l.testBit j <;> cases s.testBit j <;> rfl
theorem sub_bit {l s j : Nat} (h : s &&& l = s) (hb : s.testBit j = true) : l.testBit j = true := by
  rw [← h, Nat.testBit_and] at hb
  cases hl : l.testBit j
  · rw [hl] at hb; simp at hb
  · rfl
theorem LL_mono {m : Nat} {V : Nat → Nat} (hV : VOk V) (hm : m < 2) {j x y : Nat} (hj : j < 7) (hxy : x ≤ y) (hy : y ≤ 99) : ∀ c left g t, pc left ≤ c → left < 2 ^ V 9 → LL m (upN V (24 + j) y) left g t ≤ LL m (upN V (24 + j) x) left g t
  | 0, left, g, t, hc, hl => by
    have := pc_0 left (Nat.lt_of_lt_of_le hl (p7 hV.2.2.2.2.1)) (by omega)
    subst this; rw [LL_0, LL_0]; exact Nat.le_refl _
  | c + 1, left, g, t, hc, hl => by
    have hl7 : left < 128 := Nat.lt_of_lt_of_le hl (p7 hV.2.2.2.2.1)
    by_cases h0 : left = 0
    · subst h0; rw [LL_0, LL_0]; exact Nat.le_refl _
    · have hVx := VOk_due hV hj (show x ≤ 99 by omega)
      have h9 : upN V (24 + j) x 9 = V 9 := upN_ag V j x 9 (by omega)
      have h97 : upN V (24 + j) x 9 ≤ 7 := by rw [h9]; exact hV.2.2.2.2.1
      obtain ⟨S, h1, h2, h3⟩ := LL_ex (m := m) hVx (g := g) (t := t) (by rw [h9]; exact hl) h0
      have ag := upN_ag2 V j x y
      have hS := (ag_okB ag h97 S).mp h1
      have hp := pc_sd left hl7 S (okB_lt hVx h1) h1.1 h2
      have h4 := LL_le (m := m) (g := g) (t := t) hl7 hS h2
      rw [h3]
      refine Nat.le_trans h4 ?_
      unfold cand
      rw [ag_famS ag h97, ag_tk ag]
      refine jn_mono ?_ (LL_mono hV hm hj hxy hy c _ _ _ (by omega) (sd_sub hl))
      unfold part
      rw [if_neg (by omega), if_neg (by omega), if_neg (by omega), if_neg (by omega), h9, upN_ag V j y 9 (by omega)]
      exact late_mono hxy _
theorem LL_lip {m : Nat} {V : Nat → Nat} (hV : VOk V) (hm : m < 2) {j x y : Nat} (hj : j < V 9) (hxy : x ≤ y) (hy : y ≤ 99) : ∀ c left g t, pc left ≤ c → left < 2 ^ V 9 → LL m (upN V (24 + j) x) left g t ≤ LL m (upN V (24 + j) y) left g t + (if left.testBit j = true then y - x else 0)
  | 0, left, g, t, hc, hl => by
    have := pc_0 left (Nat.lt_of_lt_of_le hl (p7 hV.2.2.2.2.1)) (by omega)
    subst this; rw [LL_0, LL_0]; exact Nat.zero_le _
  | c + 1, left, g, t, hc, hl => by
    have h7 := hV.2.2.2.2.1
    have hl7 : left < 128 := Nat.lt_of_lt_of_le hl (p7 h7)
    by_cases h0 : left = 0
    · subst h0; rw [LL_0, LL_0]; exact Nat.zero_le _
    · have hVy := VOk_due hV (show j < 7 by omega) hy
      have h9 : upN V (24 + j) y 9 = V 9 := upN_ag V j y 9 (by omega)
      have h97 : upN V (24 + j) y 9 ≤ 7 := by rw [h9]; exact h7
      obtain ⟨S, h1, h2, h3⟩ := LL_ex (m := m) hVy (g := g) (t := t) (by rw [h9]; exact hl) h0
      have ag := upN_ag2 V j y x
      have hS := (ag_okB ag h97 S).mp h1
      have hp := pc_sd left hl7 S (okB_lt hVy h1) h1.1 h2
      have h4 := LL_le (m := m) (g := g) (t := t) hl7 hS h2
      rw [h3]
      refine Nat.le_trans h4 ?_
      have ih := LL_lip hV hm hj hxy hy c (sd left S) (famS (upN V (24 + j) y) S) (t + tk (upN V (24 + j) y) g (famS (upN V (24 + j) y) S)) (by omega) (sd_sub hl)
      have hl2 := late_lip (m := m) (V := V) (j := j) (S := S) (e := t + tk (upN V (24 + j) y) g (famS (upN V (24 + j) y) S)) hxy (V 9)
      unfold cand
      rw [← ag_famS ag h97, ← ag_tk ag]
      have hq : ∀ z, part m (upN V (24 + j) z) S t (t + tk (upN V (24 + j) y) g (famS (upN V (24 + j) y) S)) = lateR m (upN V (24 + j) z) S (t + tk (upN V (24 + j) y) g (famS (upN V (24 + j) y) S)) (V 9) := by
        intro z
        unfold part
        rw [if_neg (by omega), if_neg (by omega), upN_ag V j z 9 (by omega)]
      rw [hq x, hq y]
      refine Nat.le_trans (jn_lip hl2 ih) (Nat.add_le_add_left ?_ _)
      rw [sd_bit (by omega)]
      by_cases hb : S.testBit j = true
      · rw [sub_bit h2 hb, hb]
        simp [hj]
      · have hb' : S.testBit j = false := by simpa using hb
        rw [hb']
        simp
/-- the least DUE that leaves BEST -/
def fdR (m : Nat) (V : Nat → Nat) (j : Nat) : Nat → Nat → Nat
  | 0, x => x
  | r + 1, x => if best m (upN V (24 + j) x) = best m V then x else fdR m V j r (x + 1)
def ldue (m : Nat) (V : Nat → Nat) (j : Nat) : Nat := fdR m V j (V (24 + j)) 0
theorem fdR_eq {m : Nat} {V : Nat → Nat} {j : Nat} : ∀ r x y, x ≤ y → y ≤ x + r → best m (upN V (24 + j) y) = best m V → (∀ z, x ≤ z → z < y → best m (upN V (24 + j) z) ≠ best m V) → fdR m V j r x = y
  | 0, x, y, h1, h2, _, _ => by unfold fdR; omega
  | r + 1, x, y, h1, h2, h3, h4 => by
    unfold fdR
    by_cases hx : x = y
    · subst hx; rw [if_pos h3]
    · rw [if_neg (h4 x (Nat.le_refl _) (by omega))]
      exact fdR_eq r (x + 1) y (by omega) (by omega) h3 (fun z a b => h4 z (by omega) b)
theorem ldue_eq {m : Nat} {V : Nat → Nat} {j y : Nat} (h : y ≤ V (24 + j)) (h1 : best m (upN V (24 + j) y) = best m V) (h2 : ∀ z, z < y → best m (upN V (24 + j) z) ≠ best m V) : ldue m V j = y :=
  fdR_eq _ 0 y (by omega) (by omega) h1 (fun z _ b => h2 z b)
theorem upN_self (V : Nat → Nat) (j : Nat) : upN V (24 + j) (V (24 + j)) = V := by
  funext k
  unfold upN
  split
  · rename_i h; rw [h]
  · rfl
theorem best_2 {m : Nat} {V : Nat → Nat} (hV : VOk V) (hm : 2 ≤ m) (hm4 : m < 4) (j x : Nat) : best m (upN V (24 + j) x) = best m V := by
  have h9 := upN_ag V j x 9 (by omega)
  unfold best LL fullS
  rw [h9]
  exact ag_Lm hm hm4 (upN_ag V j x) (by rw [h9]; exact hV.2.2.2.2.1) _ _ _ _
theorem best_mono {m : Nat} {V : Nat → Nat} (hV : VOk V) (hm : m < 2) {j x y : Nat} (hj : j < 7) (hxy : x ≤ y) (hy : y ≤ 99) : best m (upN V (24 + j) y) ≤ best m (upN V (24 + j) x) := by
  have h := LL_mono hV hm hj hxy hy 7 (fullS V) 3 0 (pc_7 _ (full_lt hV)) full_lt2
  unfold best fullS at *
  rw [upN_ag V j x 9 (by omega), upN_ag V j y 9 (by omega)]
  exact h
theorem best_lip {m : Nat} {V : Nat → Nat} (hV : VOk V) (hm : m < 2) {j x y : Nat} (hj : j < V 9) (hxy : x ≤ y) (hy : y ≤ 99) : best m (upN V (24 + j) x) ≤ best m (upN V (24 + j) y) + (y - x) := by
  have h := LL_lip hV hm hj hxy hy 7 (fullS V) 3 0 (pc_7 _ (full_lt hV)) full_lt2
  have h2 : LL m (upN V (24 + j) x) (fullS V) 3 0 ≤ LL m (upN V (24 + j) y) (fullS V) 3 0 + (y - x) := by
    split at h <;> omega
  unfold best fullS at *
  rw [upN_ag V j x 9 (by omega), upN_ag V j y 9 (by omega)]
  exact h2
section SLACKC
variable {G : Gp} {d : Nat} {Q : Option Value → Mem → Prop} {σ : Mem} {m ag : Nat} {V : Nat → Nat}
theorem due_at {b j x : Nat} {W : Nat → Nat} (hj : j < 7) (h : ShAt σ b W) : ShAt (wr σ (b + 5) j (nI x)) b (upN W (24 + j) x) := by
  have e := upN_ag W j x
  refine ⟨fun f hf => ?_, ?_, fun i hi => ?_⟩
  · rw [wr_o (by omega), wr_o (by omega), ag_ht e, ag_ck e]; exact h.1 f hf
  · rw [wr_o (by omega), e 6 (by omega), e 7 (by omega), e 8 (by omega), e 9 (by omega)]; exact h.2.1
  · rw [wr_o (by omega), wr_o (by omega), e (10 + i) (by omega), e (17 + i) (by omega)]
    refine ⟨h.f i hi, h.v i hi, ?_⟩
    by_cases hij : i = j
    · subst hij
      rw [wr_s]; unfold upN; rw [if_pos rfl]
    · rw [wr_n (by omega)]
      unfold upN
      rw [if_neg (by omega)]; exact h.d i hi
theorem upN_upN (W : Nat → Nat) (k x y : Nat) : upN (upN W k x) k y = upN W k y := by
  funext i
  unfold upN
  split <;> rfl
theorem sp_earliestDue {j : Nat} (hV : VOk V) (hm : m < 4) (hj : j < V 9) (hs : ShAt σ 1 V) (hK : KOld σ ag) (hc : σ 8 3 = nI 0 ∧ σ 9 3 = nI 0) (hbv : σ 50 m = nI (best m V))
    (h : ∀ (τ : Mem) (ag' : Nat), (∀ a, a < 7 ∨ (12 < a ∧ a < 52) ∨ 56 < a → τ a = σ a) → τ 8 3 = nI 0 ∧ τ 9 3 = nI 0 → KOld τ ag' → Q (some (.int (nI (ldue m V j)))) τ) :
    E G MX4_earliestDue (d + 12) 0 [some (.ref 0), some (.int (nI j)), some (.int (nI m)), none, none, none, none, none] [] σ Q := by
  have h7 := hV.2.2.2.2.1
  have hd := (hV.2.2.2.2.2.1 j (by omega)).2.2
  have hbl := fun x (hx : x ≤ 99) => best_le (m := m) (VOk_due hV (show j < 7 by omega) hx)
  have hbl0 := best_le (m := m) hV
  have sh50 : sh 50 = shI 4 := rfl
  apply kX4_earliestDue_0
  simp only [ia1, ia2, ia3, ia4, inn, inm, i10, i01, i0n, i1n, i0m, i1m, o_push, o_iload, o_aload, o_istore, o_iinc, o_iadd, o_isub, o_imul, o_iand, o_ior, o_ixor, o_ishl, o_ishr, o_iushr, o_idiv, o_irem, o_ineg, o_dup, o_dup2, o_pop, o_if_eq, o_if_ne, o_if_lt, o_if_ge, o_if_gt, o_if_le, o_icmp_eq, o_icmp_ne, o_icmp_lt, o_icmp_ge, o_icmp_gt, o_icmp_le, o_nonnull, o_lsw2, o_iret, o_zret, o_vret, o_cV0, o_cV1, o_cV2, o_cV3, o_cV4, o_cV5, o_cV6, o_cS1, o_cS2, o_cS3, o_cS4, lg, lset, inB, pushv, c1, okr, at_, List.replicate, true_and, and_true, true_or, or_true, eq_self, forall_const, not_true_eq_false, not_false_eq_true, forall_eq, false_implies, true_implies,  List.length_nil, List.length_cons, Nat.zero_le, Nat.reduceAdd, Nat.reduceLeDiff]
  refine sp_isOfDues hm ?_
  by_cases hm2 : m < 2
  · rw [if_pos hm2]
    simp (disch := omega) only [ia1, ia2, ia3, ia4, inn, inm, i10, i01, i0n, i1n, i0m, i1m, o_push, o_iload, o_aload, o_istore, o_iinc, o_iadd, o_isub, o_imul, o_iand, o_ior, o_ixor, o_ishl, o_ishr, o_iushr, o_idiv, o_irem, o_ineg, o_dup, o_dup2, o_pop, o_if_eq, o_if_ne, o_if_lt, o_if_ge, o_if_gt, o_if_le, o_icmp_eq, o_icmp_ne, o_icmp_lt, o_icmp_ge, o_icmp_gt, o_icmp_le, o_nonnull, o_lsw2, o_iret, o_zret, o_vret, o_cV0, o_cV1, o_cV2, o_cV3, o_cV4, o_cV5, o_cV6, o_cS1, o_cS2, o_cS3, o_cS4, lg, lset, inB, pushv, c1, okr, at_, List.replicate, true_and, and_true, true_or, or_true, eq_self, forall_const, not_true_eq_false, not_false_eq_true, forall_eq, false_implies, true_implies,  List.length_nil, List.length_cons, Nat.zero_le, Nat.reduceAdd, Nat.reduceLeDiff, gH0, gH1, gS8 isSh1, ld7 isSh1.2.2.2.2.2, hs.d, isSh7.k]
    refine sp_become isSh7 isSh1 (by omega) hs hc (fun σ1 f1 hs1 => ?_)
    simp only [ia1, ia2, ia3, ia4, inn, inm, i10, i01, i0n, i1n, i0m, i1m, o_push, o_iload, o_aload, o_istore, o_iinc, o_iadd, o_isub, o_imul, o_iand, o_ior, o_ixor, o_ishl, o_ishr, o_iushr, o_idiv, o_irem, o_ineg, o_dup, o_dup2, o_pop, o_if_eq, o_if_ne, o_if_lt, o_if_ge, o_if_gt, o_if_le, o_icmp_eq, o_icmp_ne, o_icmp_lt, o_icmp_ge, o_icmp_gt, o_icmp_le, o_nonnull, o_lsw2, o_iret, o_zret, o_vret, o_cV0, o_cV1, o_cV2, o_cV3, o_cV4, o_cV5, o_cV6, o_cS1, o_cS2, o_cS3, o_cS4, lg, lset, inB, pushv, c1, okr, at_, List.replicate, true_and, and_true, true_or, or_true, eq_self, forall_const, not_true_eq_false, not_false_eq_true, forall_eq, false_implies, true_implies,  List.length_nil, List.length_cons, Nat.zero_le, Nat.reduceAdd, Nat.reduceLeDiff, n0]
    suffices H : ∀ n i lo hi (w : Nat) (τ : Mem) (ag : Nat) (x6 x7 : Option Value), hi - lo ≤ n → i + (hi - lo) ≤ 99 → lo ≤ hi → hi ≤ V (24 + j) → best m (upN V (24 + j) hi) = best m V → (∀ x, x < lo → best m V < best m (upN V (24 + j) x)) →
        (∀ a, a < 7 ∨ (12 < a ∧ a < 52) ∨ 56 < a → τ a = σ a) → ShAt τ 7 (upN V (24 + j) w) → KOld τ ag →
        E G MX4_earliestDue (d + 12) 36 [some (.ref 0), some (.int (nI j)), some (.int (nI m)), some (.int (nI lo)), some (.int (nI hi)), some (.int (nI i)), x6, x7] [] τ Q by
      refine H (V (24 + j)) 0 0 (V (24 + j)) (V (24 + j)) σ1 ag _ _ (by omega) (by omega) (by omega) (Nat.le_refl _) (by rw [upN_self]) (fun x hx => by omega) (fun a q => f1 a (by omega)) (by rw [upN_self]; exact hs1) ?_
      obtain ⟨k1, k2, k3⟩ := hK
      refine ⟨by rw [f1 52 (by omega)]; exact k1, k2, fun i hi => ?_⟩
      rw [f1 55 (by omega)]; exact k3 i hi
    intro n
    induction n with
    | zero =>
      intro i lo hi w τ ag x6 x7 h1 h2 h3 h4 h5 h6 hfr hst hKt
      have hld : ldue m V j = hi := ldue_eq h4 h5 (fun z hz => by have := h6 z (by omega); omega)
      have hz : Q (some (.int (nI hi))) τ := by
        rw [hld] at h
        exact h τ ag hfr ⟨by rw [hst.h 3 (by omega)]; rfl, by rw [hst.c 3 (by omega)]; rfl⟩ hKt
      apply kX4_earliestDue_36
      simp (disch := omega) only [ia1, ia2, ia3, ia4, inn, inm, i10, i01, i0n, i1n, i0m, i1m, o_push, o_iload, o_aload, o_istore, o_iinc, o_iadd, o_isub, o_imul, o_iand, o_ior, o_ixor, o_ishl, o_ishr, o_iushr, o_idiv, o_irem, o_ineg, o_dup, o_dup2, o_pop, o_if_eq, o_if_ne, o_if_lt, o_if_ge, o_if_gt, o_if_le, o_icmp_eq, o_icmp_ne, o_icmp_lt, o_icmp_ge, o_icmp_gt, o_icmp_le, o_nonnull, o_lsw2, o_iret, o_zret, o_vret, o_cV0, o_cV1, o_cV2, o_cV3, o_cV4, o_cV5, o_cV6, o_cS1, o_cS2, o_cS3, o_cS4, lg, lset, inB, pushv, c1, okr, at_, List.replicate, true_and, and_true, true_or, or_true, eq_self, forall_const, not_true_eq_false, not_false_eq_true, forall_eq, false_implies, true_implies,  List.length_nil, List.length_cons, Nat.zero_le, Nat.reduceAdd, Nat.reduceLeDiff, n99, nLt, nLe]
      exact ⟨fun _ => hz, fun _ => ⟨fun _ => hz, fun q => absurd (by omega) q⟩⟩
    | succ n ih =>
      intro i lo hi w τ ag x6 x7 h1 h2 h3 h4 h5 h6 hfr hst hKt
      by_cases hlh : hi ≤ lo
      · exact ih i lo hi w τ ag x6 x7 (by omega) h2 h3 h4 h5 h6 hfr hst hKt
      · have htr : (lo + hi) / 2 < hi ∧ lo ≤ (lo + hi) / 2 := by omega
        have hb2 := hbl ((lo + hi) / 2) (by omega)
        have hmo := best_mono hV hm2 (show j < 7 by omega) (x := (lo + hi) / 2) (y := hi) (by omega) (by omega)
        have hli := best_lip hV hm2 hj (x := (lo + hi) / 2) (y := hi) (by omega) (by omega)
        rw [h5] at hmo hli
        have hst2 : ShAt (wr τ 12 j (nI ((lo + hi) / 2))) 7 (upN V (24 + j) ((lo + hi) / 2)) := by
          have := due_at (x := (lo + hi) / 2) (show j < 7 by omega) hst
          rw [upN_upN] at this
          exact this
        have hK2 : KOld (wr τ 12 j (nI ((lo + hi) / 2))) ag := by
          obtain ⟨k1, k2, k3⟩ := hKt
          refine ⟨by rw [wr_o (by omega)]; exact k1, k2, fun i hi => ?_⟩
          rw [wr_o (show (55 : Nat) ≠ 12 by omega)]; exact k3 i hi
        apply kX4_earliestDue_36
        simp (disch := omega) only [ia1, ia2, ia3, ia4, inn, inm, i10, i01, i0n, i1n, i0m, i1m, o_push, o_iload, o_aload, o_istore, o_iinc, o_iadd, o_isub, o_imul, o_iand, o_ior, o_ixor, o_ishl, o_ishr, o_iushr, o_idiv, o_irem, o_ineg, o_dup, o_dup2, o_pop, o_if_eq, o_if_ne, o_if_lt, o_if_ge, o_if_gt, o_if_le, o_icmp_eq, o_icmp_ne, o_icmp_lt, o_icmp_ge, o_icmp_gt, o_icmp_le, o_nonnull, o_lsw2, o_iret, o_zret, o_vret, o_cV0, o_cV1, o_cV2, o_cV3, o_cV4, o_cV5, o_cV6, o_cS1, o_cS2, o_cS3, o_cS4, lg, lset, inB, pushv, c1, okr, at_, List.replicate, true_and, and_true, true_or, or_true, eq_self, forall_const, not_true_eq_false, not_false_eq_true, forall_eq, false_implies, true_implies,  List.length_nil, List.length_cons, Nat.zero_le, Nat.reduceAdd, Nat.reduceLeDiff, n99, nLt, nLe, nI_add, n2, ndiv2, gH1, gS8 isSh7, st7 isSh7.2.2.2.2.2, gH11, gH9, sh52k]
        refine ⟨fun q => absurd q (by omega), fun _ => ⟨fun q => absurd q (by omega), fun _ => ⟨nI_ne0 (by omega) (by omega), ?_⟩⟩⟩
        refine sp_leastOf isSh7 (by omega) (by omega) (VOk_due hV (by omega) (by omega)) hm hst2 hK2 (fun τ3 ag3 f3 hI3 => ?_)
        have hbv3 : τ3 50 m = nI (best m V) := by rw [f3 50 (by omega), wr_o (by omega), hfr 50 (by omega)]; exact hbv
        have hst3 : ShAt τ3 7 (upN V (24 + j) ((lo + hi) / 2)) := hst2.fr (fun a _ _ => f3 a (by omega))
        have fr3 : ∀ a, a < 7 ∨ (12 < a ∧ a < 52) ∨ 56 < a → τ3 a = σ a := fun a q => by rw [f3 a (by omega), wr_o (by omega), hfr a q]
        simp (disch := omega) only [ia1, ia2, ia3, ia4, inn, inm, i10, i01, i0n, i1n, i0m, i1m, o_push, o_iload, o_aload, o_istore, o_iinc, o_iadd, o_isub, o_imul, o_iand, o_ior, o_ixor, o_ishl, o_ishr, o_iushr, o_idiv, o_irem, o_ineg, o_dup, o_dup2, o_pop, o_if_eq, o_if_ne, o_if_lt, o_if_ge, o_if_gt, o_if_le, o_icmp_eq, o_icmp_ne, o_icmp_lt, o_icmp_ge, o_icmp_gt, o_icmp_le, o_nonnull, o_lsw2, o_iret, o_zret, o_vret, o_cV0, o_cV1, o_cV2, o_cV3, o_cV4, o_cV5, o_cV6, o_cS1, o_cS2, o_cS3, o_cS4, lg, lset, inB, pushv, c1, okr, at_, List.replicate, true_and, and_true, true_or, or_true, eq_self, forall_const, not_true_eq_false, not_false_eq_true, forall_eq, false_implies, true_implies,  List.length_nil, List.length_cons, Nat.zero_le, Nat.reduceAdd, Nat.reduceLeDiff, gH9, ldI sh50, hbv3, nSub, n0, nLt, nI_add, n1]
        refine ⟨fun q => ?_, fun q => ?_⟩
        · refine ih (i + 1) _ hi ((lo + hi) / 2) τ3 ag3 _ _ (by omega) (by omega) (by omega) h4 h5 (fun x hx => ?_) fr3 hst3 hI3.old
          rcases Nat.lt_or_ge x ((lo + hi) / 2) with q2 | q2
          · have := best_mono hV hm2 (show j < 7 by omega) (x := x) (y := (lo + hi) / 2) (by omega) (by omega)
            omega
          · have := best_lip hV hm2 hj (x := (lo + hi) / 2) (y := x) q2 (by omega)
            omega
        · exact ih (i + 1) lo _ ((lo + hi) / 2) τ3 ag3 _ _ (by omega) (by omega) (by omega) (by omega) (by omega) h6 fr3 hst3 hI3.old
  · rw [if_neg hm2]
    simp only [ia1, ia2, ia3, ia4, inn, inm, i10, i01, i0n, i1n, i0m, i1m, o_push, o_iload, o_aload, o_istore, o_iinc, o_iadd, o_isub, o_imul, o_iand, o_ior, o_ixor, o_ishl, o_ishr, o_iushr, o_idiv, o_irem, o_ineg, o_dup, o_dup2, o_pop, o_if_eq, o_if_ne, o_if_lt, o_if_ge, o_if_gt, o_if_le, o_icmp_eq, o_icmp_ne, o_icmp_lt, o_icmp_ge, o_icmp_gt, o_icmp_le, o_nonnull, o_lsw2, o_iret, o_zret, o_vret, o_cV0, o_cV1, o_cV2, o_cV3, o_cV4, o_cV5, o_cV6, o_cS1, o_cS2, o_cS3, o_cS4, lg, lset, inB, pushv, c1, okr, at_, List.replicate, true_and, and_true, true_or, or_true, eq_self, forall_const, not_true_eq_false, not_false_eq_true, forall_eq, false_implies, true_implies,  List.length_nil, List.length_cons, Nat.zero_le, Nat.reduceAdd, Nat.reduceLeDiff, n0]
    have : ldue m V j = 0 := ldue_eq (by omega) (best_2 hV (by omega) hm j 0) (fun z hz => by omega)
    rw [this] at h
    exact h σ ag (fun _ _ => rfl) hc hK
end SLACKC
