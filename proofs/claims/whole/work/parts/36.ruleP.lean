/-! THE RULE: whoever takes the tightest that fits comes to the same batches -/
theorem eq7 {a b : Nat} (ha : a < 128) (hb : b < 128) (h : ∀ j, j < 7 → a.testBit j = b.testBit j) : a = b := by
  apply Nat.eq_of_testBit_eq
  intro i
  by_cases hi : i < 7
  · exact h i hi
  · rw [tb_hi (j := 7) ha (by omega), tb_hi (j := 7) hb (by omega)]
theorem sub7 {c l : Nat} (hc : c < 128) (h : ∀ j, j < 7 → c.testBit j = true → l.testBit j = true) : c &&& l = c := by
  refine eq7 (Nat.lt_of_le_of_lt Nat.and_le_left hc) hc (fun j hj => ?_)
  rw [Nat.testBit_and]
  cases hb : c.testBit j
  · rfl
  · rw [h j hj hb]; rfl
theorem sd_or {l c b : Nat} (hl : l < 128) : sd (sd l c) b = sd l (c ||| b) := by
  refine eq7 (sd_lt (sd_lt hl)) (sd_lt hl) (fun j hj => ?_)
  rw [sd_bit hj, sd_bit hj, sd_bit hj, Nat.testBit_or]
  cases l.testBit j <;> cases c.testBit j <;> cases b.testBit j <;> rfl
theorem sd_in {l c j : Nat} (h : (sd l c).testBit j = true) : l.testBit j = true := by
  unfold sd at h
  rw [Nat.testBit_and] at h
  cases hl : l.testBit j
  · rw [hl] at h; simp at h
  · rfl
theorem tp_bit {t j : Nat} : (2 ^ t).testBit j = decide (t = j) := Nat.testBit_two_pow
theorem memR_bit {V : Nat → Nat} {f j : Nat} : ∀ n, (memR V f n).testBit j = (decide (j < n) && decide (V (10 + j) = f))
  | 0 => by simp [memR]
  | n + 1 => by
    have ih := memR_bit (V := V) (f := f) (j := j) n
    unfold memR
    by_cases h : V (10 + n) = f
    · rw [if_pos h, tb_or1, ih]
      by_cases hj : n = j
      · subst hj; simp [h]
      · have e : (j < n + 1) = (j < n) := propext (by omega)
        simp [hj, e]
    · rw [if_neg h, ih]
      by_cases hj : n = j
      · subst hj; simp [h]
      · have e : (j < n + 1) = (j < n) := propext (by omega)
        simp [e]
def tgQ (V : Nat → Nat) (p : Nat → Bool) : Nat → Nat
  | 0 => 0
  | n + 1 => if p n = true ∧ (tgQ V p n = 0 ∨ tN V n < tN V (tgQ V p n - 1)) then n + 1 else tgQ V p n
theorem tgR_Q {V : Nat → Nat} {S : Nat} : ∀ n, tgR V S n = tgQ V (fun j => S.testBit j) n
  | 0 => rfl
  | n + 1 => by simp only [tgR, tgQ, tgR_Q n]
theorem tgQ_congr {V : Nat → Nat} {p q : Nat → Bool} : ∀ n, (∀ j, j < n → p j = q j) → tgQ V p n = tgQ V q n
  | 0, _ => rfl
  | n + 1, h => by simp only [tgQ, tgQ_congr n (fun j hj => h j (by omega)), h n (by omega)]
def Lx (V : Nat → Nat) (a j : Nat) : Prop := tN V a < tN V j ∨ (tN V a = tN V j ∧ a ≤ j)
theorem tgQ_0 {V : Nat → Nat} {p : Nat → Bool} : ∀ n, tgQ V p n = 0 ↔ ∀ j, j < n → p j = false
  | 0 => by simp [tgQ]
  | n + 1 => by
    have ih := tgQ_0 (V := V) (p := p) n
    unfold tgQ
    constructor
    · intro h j hj
      by_cases hc : p n = true ∧ (tgQ V p n = 0 ∨ tN V n < tN V (tgQ V p n - 1))
      · rw [if_pos hc] at h; omega
      · rw [if_neg hc] at h
        by_cases hjn : j = n
        · subst hjn
          cases hp : p j
          · rfl
          · exact absurd ⟨hp, Or.inl h⟩ hc
        · exact ih.mp h j (by omega)
    · intro h
      rw [if_neg (by rw [h n (by omega)]; simp)]
      exact ih.mpr (fun j hj => h j (by omega))
theorem tgQ_s {V : Nat → Nat} {p : Nat → Bool} : ∀ n, tgQ V p n ≠ 0 → tgQ V p n - 1 < n ∧ p (tgQ V p n - 1) = true ∧ ∀ j, j < n → p j = true → Lx V (tgQ V p n - 1) j
  | 0, h => absurd rfl h
  | n + 1, h => by
    have ih := tgQ_s (V := V) (p := p) n
    unfold tgQ at h ⊢
    by_cases hc : p n = true ∧ (tgQ V p n = 0 ∨ tN V n < tN V (tgQ V p n - 1))
    · rw [if_pos hc]
      refine ⟨by omega, hc.1, fun j hj hp => ?_⟩
      rw [Nat.add_sub_cancel]
      by_cases hjn : j = n
      · subst hjn; exact Or.inr ⟨rfl, Nat.le_refl _⟩
      · by_cases h0 : tgQ V p n = 0
        · rw [(tgQ_0 n).mp h0 j (by omega)] at hp; cases hp
        · rcases hc.2 with z | z
          · exact absurd z h0
          · rcases (ih h0).2.2 j (by omega) hp with w | w
            · exact Or.inl (by omega)
            · exact Or.inl (by omega)
    · rw [if_neg hc] at h ⊢
      obtain ⟨i1, i2, i3⟩ := ih h
      refine ⟨by omega, i2, fun j hj hp => ?_⟩
      by_cases hjn : j = n
      · subst hjn
        have : ¬ tN V j < tN V (tgQ V p j - 1) := fun z => hc ⟨hp, Or.inr z⟩
        unfold Lx
        omega
      · exact i3 j (by omega) hp
theorem tgQ_eq {V : Nat → Nat} {p : Nat → Bool} {n a : Nat} (ha : a < n) (hp : p a = true) (h : ∀ j, j < n → p j = true → Lx V a j) : tgQ V p n = a + 1 := by
  have h0 : tgQ V p n ≠ 0 := fun z => by rw [(tgQ_0 n).mp z a ha] at hp; cases hp
  obtain ⟨i1, i2, i3⟩ := tgQ_s n h0
  have q1 := i3 a ha hp
  have q2 := h _ i1 i2
  unfold Lx at q1 q2
  omega
theorem tgt_spec {V : Nat → Nat} {o : Nat} (ho : o < 128) (hV : V 9 ≤ 7) (hlt : ∀ j, o.testBit j = true → j < V 9) (h0 : o ≠ 0) : o.testBit (tgt V o) = true ∧ tgt V o < V 9 ∧ tgR V o (V 9) = tgt V o + 1 ∧ ∀ j, j < V 9 → o.testBit j = true → Lx V (tgt V o) j := by
  have hne : tgQ V (fun j => o.testBit j) (V 9) ≠ 0 := by
    intro z
    refine h0 (eq7 ho (by omega) (fun j hj => ?_))
    rw [Nat.zero_testBit]
    cases hb : o.testBit j
    · rfl
    · have := (tgQ_0 (V 9)).mp z j (hlt j hb)
      rw [← this]; exact hb.symm
  obtain ⟨i1, i2, i3⟩ := tgQ_s _ hne
  unfold tgt
  rw [tgR_Q]
  exact ⟨i2, i1, by omega, i3⟩
/-- on the way through the others of a batch -/
def RI (V : Nat → Nat) (L F o v c : Nat) : Prop := okB V c ∧ famS V c = F ∧ volS V c = v ∧ (∀ j, o.testBit j = true → j < V 9 ∧ V (10 + j) = F ∧ L.testBit j = true ∧ c.testBit j = false) ∧ (∀ j, c.testBit j = true → L.testBit j = true) ∧ (∀ j, j < V 9 → L.testBit j = true → c.testBit j = false → V (10 + j) = F → o.testBit j = false → V 6 < v + V (17 + j))
theorem RI_take {V : Nat → Nat} (hV : VOk V) {L F o v c t : Nat} (h : RI V L F o v c) (ht : o.testBit t = true) (hv : v + V (17 + t) ≤ V 6) : RI V L F (sd o (2 ^ t)) (v + V (17 + t)) (c ||| 2 ^ t) := by
  have h7 := hV.2.2.2.2.1
  obtain ⟨h1, h2, h3, h4, h5, h6⟩ := h
  obtain ⟨t1, t2, t3, t4⟩ := h4 t ht
  have hF : F < 3 := by rw [← t2]; exact (hV.2.2.2.2.2.1 t (by omega)).1
  refine ⟨okB_add hV t1 t4 (Or.inr h1) (Or.inr ⟨by rw [t2, h2], by omega⟩), ?_, ?_, fun j hj => ?_, fun j hj => ?_, fun j q1 q2 q3 q4 q5 => ?_⟩
  · refine famS_uni hF (fun i hi hb => ?_) ⟨t, t1, by rw [tb_or1]; simp⟩
    rw [tb_or1] at hb
    by_cases hti : t = i
    · subst hti; exact t2
    · simp [hti] at hb
      rw [h1.2.2.1 i hi hb, h2]
  · unfold volS; rw [sumS_add t4, if_pos t1]; unfold volS at h3; omega
  · obtain ⟨j1, j2, j3, j4⟩ := h4 j (sd_in hj)
    refine ⟨j1, j2, j3, ?_⟩
    rw [sd_bit (by omega), tp_bit] at hj
    rw [tb_or1, j4]
    by_cases htj : t = j
    · simp [htj] at hj
    · simp [htj]
  · rw [tb_or1] at hj
    by_cases htj : t = j
    · subst htj; exact t3
    · simp [htj] at hj; exact h5 j hj
  · rw [tb_or1] at q3
    have q3a : c.testBit j = false ∧ ¬ t = j := by simpa using q3
    rw [sd_bit (by omega), tp_bit] at q5
    have : o.testBit j = false := by
      by_cases htj : t = j
      · exact absurd htj q3a.2
      · simpa [htj] using q5
    have := h6 j q1 q2 q3a.1 q4 this
    omega
theorem RI_skip {V : Nat → Nat} (hV : VOk V) {L F o v c t : Nat} (h : RI V L F o v c) (hv : ¬ v + V (17 + t) ≤ V 6) : RI V L F (sd o (2 ^ t)) v c := by
  have h7 := hV.2.2.2.2.1
  obtain ⟨h1, h2, h3, h4, h5, h6⟩ := h
  refine ⟨h1, h2, h3, fun j hj => h4 j (sd_in hj), h5, fun j q1 q2 q3 q4 q5 => ?_⟩
  by_cases htj : t = j
  · subst htj; omega
  · rw [sd_bit (by omega), tp_bit] at q5
    exact h6 j q1 q2 q3 q4 (by simpa [htj] using q5)
theorem RI_pc {V : Nat → Nat} (hV : VOk V) {L F o v c : Nat} (h : RI V L F o v c) (ho : o < 128) (h0 : o ≠ 0) : pc (sd o (2 ^ tgt V o)) + 1 ≤ pc o ∧ o.testBit (tgt V o) = true ∧ tgt V o < V 9 ∧ ∀ j, j < V 9 → o.testBit j = true → Lx V (tgt V o) j := by
  have h7 := hV.2.2.2.2.1
  obtain ⟨t1, t2, t3, t4⟩ := tgt_spec ho h7 (fun j hj => (h.2.2.2.1 j hj).1) h0
  refine ⟨pc_sd o ho _ (show 2 ^ tgt V o < 2 ^ 7 from pow_lt (by omega)) (Nat.ne_of_gt (Nat.two_pow_pos _)) (sub7 (show 2 ^ tgt V o < 2 ^ 7 from pow_lt (by omega)) (fun j hj hb => ?_)), t1, t2, t4⟩
  rw [tp_bit] at hb
  have : tgt V o = j := by simpa using hb
  rw [← this]; exact t1
theorem rbR_inv {V : Nat → Nat} (hV : VOk V) {L F : Nat} : ∀ r o v c, RI V L F o v c → o < 128 → pc o ≤ r → ∃ v', RI V L F 0 v' (rbR V r o v c)
  | 0, o, v, c, h, ho, hp => by
    have := pc_0 o ho (by omega)
    subst this
    exact ⟨v, h⟩
  | r + 1, o, v, c, h, ho, hp => by
    unfold rbR
    by_cases h0 : o = 0
    · rw [if_pos h0]; subst h0; exact ⟨v, h⟩
    · rw [if_neg h0]
      obtain ⟨p1, t1, -, -⟩ := RI_pc hV h ho h0
      by_cases hv : v + V (17 + tgt V o) ≤ V 6
      · rw [if_pos hv]; exact rbR_inv hV r _ _ _ (RI_take hV h t1 hv) (sd_lt ho) (by omega)
      · rw [if_neg hv]; exact rbR_inv hV r _ _ _ (RI_skip hV h hv) (sd_lt ho) (by omega)
theorem sumS_0 {f : Nat → Nat} : ∀ n, sumS f 0 n = 0
  | 0 => rfl
  | n + 1 => by simp [sumS, sumS_0 n]
theorem RI_first {V : Nat → Nat} (hV : VOk V) {L : Nat} (hL : L < 2 ^ V 9) (h0 : L ≠ 0) : RI V L (V (10 + tgt V L)) (sd (L &&& memR V (V (10 + tgt V L)) (V 9)) (2 ^ tgt V L)) (V (17 + tgt V L)) (2 ^ tgt V L) ∧ L.testBit (tgt V L) = true ∧ tgt V L < V 9 ∧ tgR V L (V 9) = tgt V L + 1 := by
  have h7 := hV.2.2.2.2.1
  have hl7 : L < 128 := Nat.lt_of_lt_of_le hL (p7 h7)
  have hlb : ∀ j, L.testBit j = true → j < V 9 := fun j hj => by
    rcases Nat.lt_or_ge j (V 9) with z | z
    · exact z
    · rw [tb_hi hL z] at hj; cases hj
  obtain ⟨t1, t2, t3, t4⟩ := tgt_spec hl7 h7 hlb h0
  generalize tgt V L = t at t1 t2 t3 t4
  have hv := hV.2.2.2.2.2.1 t (by omega)
  refine ⟨⟨okB_one hV t2, ?_, ?_, fun j hj => ?_, fun j hj => ?_, fun j q1 q2 q3 q4 q5 => ?_⟩, t1, t2, t3⟩
  · refine famS_uni hv.1 (fun i hi hb => ?_) ⟨t, t2, by rw [tp_bit]; simp⟩
    rw [tp_bit] at hb
    have : t = i := by simpa using hb
    rw [this]
  · have := sumS_add (f := fun j => V (17 + j)) (c := 0) (j := t) (by simp) (V 9)
    rw [Nat.zero_or, sumS_0, if_pos t2] at this
    unfold volS; omega
  · have hj1 := sd_in hj
    rw [Nat.testBit_and, memR_bit] at hj1
    have hj2 : L.testBit j = true ∧ j < V 9 ∧ V (10 + j) = V (10 + t) := by simpa using hj1
    refine ⟨hj2.2.1, hj2.2.2, hj2.1, ?_⟩
    rw [sd_bit (by omega), tp_bit] at hj
    rw [tp_bit]
    by_cases htj : t = j
    · simp [htj] at hj
    · simp [htj]
  · rw [tp_bit] at hj
    have : t = j := by simpa using hj
    rw [← this]; exact t1
  · exfalso
    rw [sd_bit (by omega), tp_bit, Nat.testBit_and, memR_bit, q2] at q5
    rw [tp_bit] at q3
    simp [q3, q1, q4] at q5
theorem rbt_inv {V : Nat → Nat} (hV : VOk V) {L : Nat} (hL : L < 2 ^ V 9) (h0 : L ≠ 0) : okB V (rbt V L) ∧ rbt V L &&& L = rbt V L ∧ pc (sd L (rbt V L)) + 1 ≤ pc L := by
  have h7 := hV.2.2.2.2.1
  have hl7 : L < 128 := Nat.lt_of_lt_of_le hL (p7 h7)
  obtain ⟨hR, -, -, -⟩ := RI_first hV hL h0
  obtain ⟨v', hf⟩ := rbR_inv hV 7 _ _ _ hR (sd_lt (Nat.lt_of_le_of_lt Nat.and_le_left hl7)) (pc_7 _ (sd_lt (Nat.lt_of_le_of_lt Nat.and_le_left hl7)))
  have hs : rbt V L &&& L = rbt V L := sub7 (rbt_lt hV L) (fun j _ hb => hf.2.2.2.2.1 j hb)
  exact ⟨hf.1, hs, pc_sd L hl7 _ (rbt_lt hV L) (rbt_ne L) hs⟩
theorem lrR_inv {V : Nat → Nat} (hV : VOk V) : ∀ r left k (B : Nat → Nat), left < 2 ^ V 9 → pc left ≤ r → k + pc left ≤ 7 → (∀ i, i < k → okB V (B i)) → (lrR V r left k B).1 ≤ 7 ∧ ∀ i, i < (lrR V r left k B).1 → okB V ((lrR V r left k B).2 i)
  | 0, left, k, B, hl, hp, hk, hok => ⟨by unfold lrR; omega, hok⟩
  | r + 1, left, k, B, hl, hp, hk, hok => by
    unfold lrR
    by_cases h0 : left = 0
    · rw [if_pos h0]; exact ⟨by simp; omega, hok⟩
    · rw [if_neg h0]
      obtain ⟨w1, w2, w3⟩ := rbt_inv hV hl h0
      refine lrR_inv hV r _ (k + 1) _ (sd_sub hl) (by omega) (by omega) (fun i hi => ?_)
      unfold upN
      split
      · exact w1
      · exact hok i (by omega)
theorem ruleP_inv {V : Nat → Nat} (hV : VOk V) : (ruleP V).1 ≤ 7 ∧ ∀ i, i < (ruleP V).1 → okB V ((ruleP V).2 i) := by
  have hfp := pc_7 _ (full_lt hV)
  exact lrR_inv hV 7 (fullS V) 0 _ full_lt2 hfp (by omega) (fun i hi => by omega)
