/-! the pad: what is read is a plan -/
theorem tb_or1 {c j i : Nat} : (c ||| 2 ^ j).testBit i = (c.testBit i || decide (j = i)) := by rw [Nat.testBit_or, Nat.testBit_two_pow]
theorem sumS_add {f : Nat → Nat} {c j : Nat} (h : c.testBit j = false) : ∀ n, sumS f (c ||| 2 ^ j) n = sumS f c n + if j < n then f j else 0
  | 0 => by simp [sumS]
  | n + 1 => by
    have ih := sumS_add (f := f) h n
    unfold sumS
    rw [ih, tb_or1]
    by_cases h1 : j = n
    · subst h1
      rw [h]; simp
    · by_cases h2 : j < n
      · have h3 : j < n + 1 := by omega
        simp only [h1, h2, h3, if_true, decide_false, Bool.or_false]; omega
      · have h3 : ¬ j < n + 1 := by omega
        simp only [h1, h2, h3, if_false, decide_false, Bool.or_false]; omega
theorem famR_uni {V : Nat → Nat} {S F : Nat} (hF : F < 3) : ∀ n, (∀ i, i < n → S.testBit i = true → V (10 + i) = F) → famR V S n = if (∃ i, i < n ∧ S.testBit i = true) then F else 3 := by
  intro n
  induction n with
  | zero => intro _; rw [if_neg (by rintro ⟨i, hi, -⟩; omega)]; rfl
  | succ n ih =>
    intro h
    have ih := ih (fun i hi => h i (by omega))
    unfold famR
    by_cases hx : ∃ i, i < n ∧ S.testBit i = true
    · rw [if_pos hx] at ih
      obtain ⟨i, h1, h2⟩ := hx
      rw [ih, if_pos hF, if_pos ⟨i, by omega, h2⟩]
    · rw [if_neg hx] at ih
      rw [ih, if_neg (by omega)]
      by_cases hb : S.testBit n = true
      · rw [if_pos hb, if_pos ⟨n, by omega, hb⟩, h n (by omega) hb]
      · rw [if_neg hb, if_neg]
        rintro ⟨i, h1, h2⟩
        by_cases hin : i = n
        · subst hin; exact hb h2
        · exact hx ⟨i, by omega, h2⟩
theorem famS_uni {V : Nat → Nat} {S F : Nat} (hF : F < 3) (h : ∀ i, i < V 9 → S.testBit i = true → V (10 + i) = F) (hx : ∃ i, i < V 9 ∧ S.testBit i = true) : famS V S = F := by
  unfold famS
  rw [famR_uni hF (V 9) h, if_pos hx]
theorem okB_add {V : Nat → Nat} (hV : VOk V) {c j : Nat} (hj : j < V 9) (hb : c.testBit j = false) (hc : c = 0 ∨ okB V c) (hf : c = 0 ∨ (V (10 + j) = famS V c ∧ volS V c + V (17 + j) ≤ V 6)) : okB V (c ||| 2 ^ j) := by
  have h7 := hV.2.2.2.2.1
  have hv := hV.2.2.2.2.2.1 j (by omega)
  have hr := hV.2.1
  rcases hf with rfl | ⟨h1, h2⟩
  · rw [Nat.zero_or]; exact okB_one hV hj
  · have hbj : (c ||| 2 ^ j).testBit j = true := by rw [tb_or1]; simp
    have hall : ∀ i, i < V 9 → (c ||| 2 ^ j).testBit i = true → V (10 + i) = V (10 + j) := by
      intro i hi hbi
      rw [tb_or1] at hbi
      by_cases hij : j = i
      · subst hij; rfl
      · rcases hc with rfl | hc
        · simp [hij] at hbi
        · simp [hij] at hbi
          rw [h1]; exact hc.2.2.1 i hi hbi
    have hfam := famS_uni hv.1 hall ⟨j, hj, hbj⟩
    have hlt : c < 2 ^ V 9 := by
      rcases hc with rfl | hc
      · exact Nat.two_pow_pos _
      · exact hc.2.1
    refine ⟨fun z => ?_, Nat.or_lt_two_pow hlt (pow_lt hj), fun i hi hbi => by rw [hfam]; exact hall i hi hbi, ?_⟩
    · rw [z] at hbj; simp at hbj
    · have : volS V (c ||| 2 ^ j) = volS V c + V (17 + j) := by unfold volS; rw [sumS_add hb, if_pos hj]
      omega
def PInv (V : Nat → Nat) (i t c k : Nat) (B : Nat → Nat) : Prop := t < 2 ^ V 9 ∧ (∀ x, x < k → okB V (B x)) ∧ (c = 0 ∨ okB V c) ∧ orR B k ||| c = t ∧ k + (if c = 0 then 0 else 1) ≤ pc t ∧ 2 * k + (if c = 0 then 0 else 1) ≤ i
theorem orR_congr {B B' : Nat → Nat} : ∀ k, (∀ i, i < k → B i = B' i) → orR B k = orR B' k
  | 0, _ => rfl
  | k + 1, h => by simp only [orR, orR_congr k (fun i hi => h i (by omega)), h k (by omega)]
theorem padF_inv {V sg : Nat → Nat} (hV : VOk V) : ∀ r i t c k (B : Nat → Nat), PInv V i t c k B → PInv V (padF V sg r i t c k B).1 (padF V sg r i t c k B).2.1 (padF V sg r i t c k B).2.2.1 (padF V sg r i t c k B).2.2.2.1 (padF V sg r i t c k B).2.2.2.2
  | 0, _, _, _, _, _, h => h
  | r + 1, i, t, c, k, B, h => by
    have h7 := hV.2.2.2.2.1
    unfold padF
    split
    · split
      · exact h
      · rename_i hc
        refine padF_inv hV r _ _ _ _ _ ?_
        obtain ⟨h1, h2, h3, h4, h5, h6⟩ := h
        rw [if_neg hc] at h5 h6
        refine ⟨h1, fun x hx => ?_, Or.inl rfl, ?_, by simp; omega, by simp; omega⟩
        · unfold upN
          split
          · rcases h3 with h3 | h3
            · exact absurd h3 hc
            · exact h3
          · exact h2 x (by omega)
        · rw [orR, orR_congr (B' := B) k (fun i hi => by simp [upN]; omega), Nat.or_zero]
          simp [upN, h4]
    · split
      · rename_i hst
        refine padF_inv hV r _ _ _ _ _ ?_
        obtain ⟨h1, h2, h3, h4, h5, h6⟩ := h
        obtain ⟨s1, s2, s3, s4⟩ := hst
        have hcb : c.testBit (sg i - 48) = false := by
          rw [← h4, Nat.testBit_or] at s3
          simp at s3
          exact s3.2
        have hne : ¬ (c ||| 2 ^ (sg i - 48)) = 0 := (okB_add hV s2 hcb h3 s4).1
        have hpc : pc (t ||| 2 ^ (sg i - 48)) = pc t + 1 := by unfold pc; rw [sumS_add s3, if_pos (by omega)]
        refine ⟨Nat.or_lt_two_pow h1 (pow_lt s2), h2, Or.inr (okB_add hV s2 hcb h3 s4), by rw [← Nat.or_assoc, h4], ?_, ?_⟩
        · rw [if_neg hne, hpc]; split at h5 <;> omega
        · rw [if_neg hne]; split at h6 <;> omega
      · exact h
theorem padX_inv {V sg : Nat → Nat} (hV : VOk V) (len : Nat) : PInv V (padX V len sg).1 (padX V len sg).2.1 (padX V len sg).2.2.1 (padX V len sg).2.2.2.1 (padX V len sg).2.2.2.2 :=
  padF_inv hV len 0 0 0 0 _ ⟨Nat.two_pow_pos _, fun x hx => by omega, Or.inl rfl, rfl, by simp, by simp⟩
/-- the plan on the pad -/
theorem pad_plan {V sg : Nat → Nat} (hV : VOk V) (len : Nat) : (∀ x, x < padK V len sg → okB V (padB V len sg x)) ∧ orR (padB V len sg) (padK V len sg) = (padX V len sg).2.1 ∧ (padX V len sg).2.1 < 2 ^ V 9 ∧ padK V len sg ≤ pc (padX V len sg).2.1 := by
  obtain ⟨h1, h2, h3, h4, h5, -⟩ := padX_inv (sg := sg) hV len
  unfold padK padB
  generalize hX : padX V len sg = X at *
  by_cases hc : X.2.2.1 = 0
  · rw [if_pos hc, if_pos hc]
    rw [if_pos hc] at h5
    rw [hc, Nat.or_zero] at h4
    exact ⟨h2, h4, h1, h5⟩
  · rw [if_neg hc, if_neg hc]
    rw [if_neg hc] at h5
    refine ⟨fun x hx => ?_, ?_, h1, h5⟩
    · unfold upN
      split
      · rcases h3 with h3 | h3
        · exact absurd h3 hc
        · exact h3
      · exact h2 x (by omega)
    · rw [orR, orR_congr (B' := X.2.2.2.2) _ (fun i hi => by simp [upN]; omega)]
      simp [upN, h4]
theorem pad_room {V sg : Nat → Nat} (hV : VOk V) {len j : Nat} (hj : j < V 9) (hb : (padX V len sg).2.1.testBit j = false) : padK V len sg < 7 := by
  have h7 := hV.2.2.2.2.1
  obtain ⟨-, -, h1, h2⟩ := pad_plan (sg := sg) hV len
  have hpc : pc ((padX V len sg).2.1 ||| 2 ^ j) = pc (padX V len sg).2.1 + 1 := by unfold pc; rw [sumS_add hb, if_pos (by omega)]
  have := pc_7 ((padX V len sg).2.1 ||| 2 ^ j) (Nat.lt_of_lt_of_le (Nat.or_lt_two_pow h1 (pow_lt hj)) (p7 h7))
  omega
