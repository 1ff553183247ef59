/-! the least of a measure: what is left, the family of the furnace, the time -/
def pc (S : Nat) : Nat := sumS (fun _ => 1) S 7
abbrev okB (V : Nat → Nat) (S : Nat) : Prop := S ≠ 0 ∧ S < 2 ^ V 9 ∧ (∀ j, j < V 9 → S.testBit j = true → V (10 + j) = famS V S) ∧ volS V S ≤ V 6
def part (m : Nat) (V : Nat → Nat) (S t e : Nat) : Nat := if m = 2 then e - t else if m = 3 then 1 else lateR m V S e (V 9)
def cand (m : Nat) (V : Nat → Nat) (rc : Nat → Nat → Nat → Nat) (left g t S : Nat) : Nat := jn m (part m V S t (t + tk V g (famS V S))) (rc (sd left S) (famS V S) (t + tk V g (famS V S)))
def mnF (f : Nat → Option Nat) : Nat → Option Nat
  | 0 => none
  | n + 1 => match f n, mnF f n with
    | none, r => r
    | some v, none => some v
    | some v, some r => some (min v r)
def Lm (m : Nat) (V : Nat → Nat) : Nat → Nat → Nat → Nat → Nat
  | 0, _, _, _ => 0
  | k + 1, left, g, t => if left = 0 then 0 else (mnF (fun S => if okB V S ∧ S &&& left = S then some (cand m V (Lm m V k) left g t S) else none) 128).getD 0
def LL (m : Nat) (V : Nat → Nat) (left g t : Nat) : Nat := Lm m V 7 left g t
theorem mnF_le {f : Nat → Option Nat} : ∀ n S v, S < n → f S = some v → ∃ r, mnF f n = some r ∧ r ≤ v
  | 0, _, _, h, _ => by omega
  | n + 1, S, v, h, hf => by
    unfold mnF
    by_cases hS : S = n
    · subst hS
      rw [hf]
      cases h2 : mnF f S with
      | none => exact ⟨v, rfl, Nat.le_refl _⟩
      | some r => exact ⟨min v r, rfl, Nat.min_le_left _ _⟩
    · obtain ⟨r, h1, h2⟩ := mnF_le n S v (by omega) hf
      rw [h1]
      cases h3 : f n with
      | none => exact ⟨r, rfl, h2⟩
      | some w => exact ⟨min w r, rfl, Nat.le_trans (Nat.min_le_right _ _) h2⟩
theorem mnF_ex {f : Nat → Option Nat} : ∀ n r, mnF f n = some r → ∃ S, S < n ∧ f S = some r
  | 0, _, h => by simp [mnF] at h
  | n + 1, r, h => by
    unfold mnF at h
    cases h3 : f n with
    | none =>
      rw [h3] at h
      obtain ⟨S, h1, h2⟩ := mnF_ex n r h
      exact ⟨S, by omega, h2⟩
    | some w =>
      rw [h3] at h
      cases h4 : mnF f n with
      | none =>
        rw [h4] at h
        exact ⟨n, by omega, by rw [h3]; exact h⟩
      | some r2 =>
        rw [h4] at h
        have h5 : min w r2 = r := Option.some.inj h
        rcases Nat.le_total w r2 with q | q
        · rw [Nat.min_eq_left q] at h5
          exact ⟨n, by omega, by rw [h3, h5]⟩
        · rw [Nat.min_eq_right q] at h5
          obtain ⟨S, h1, h2⟩ := mnF_ex n r2 h4
          exact ⟨S, by omega, by rw [h2, h5]⟩
theorem pc_sd : ∀ l, l < 128 → ∀ s, s < 128 → s ≠ 0 → s &&& l = s → pc (sd l s) + 1 ≤ pc l := by decide +kernel
theorem pc_7 : ∀ l, l < 128 → pc l ≤ 7 := by decide +kernel
theorem pc_0 : ∀ l, l < 128 → pc l = 0 → l = 0 := by decide +kernel
theorem sub_one : ∀ l, l < 128 → ∀ s, s < 128 → s ≠ 0 → s &&& l = s → pc l = 1 → s = l := by decide +kernel
theorem sub_self_sd : ∀ l, l < 128 → sd l l = 0 := by decide +kernel
theorem bit_sub : ∀ l, l < 128 → ∀ j, j < 7 → l.testBit j = true → 2 ^ j &&& l = 2 ^ j := by decide +kernel
theorem has_one : ∀ l, l < 128 → l ≠ 0 → ∃ j, j < 7 ∧ l.testBit j = true := by decide +kernel
theorem sub_le {s l : Nat} (h : s &&& l = s) : s ≤ l := by rw [← h]; exact Nat.and_le_right
/-- more steps change nothing -/
theorem Lm_fuel {m : Nat} {V : Nat → Nat} : ∀ k k' left g t, left < 128 → pc left ≤ k → pc left ≤ k' → Lm m V k left g t = Lm m V k' left g t
  | 0, 0, _, _, _, _, _, _ => rfl
  | 0, k' + 1, left, g, t, hl, h0, _ => by
    have := pc_0 left hl (by omega)
    simp [Lm, this]
  | k + 1, 0, left, g, t, hl, _, h0 => by
    have := pc_0 left hl (by omega)
    simp [Lm, this]
  | k + 1, k' + 1, left, g, t, hl, h1, h2 => by
    unfold Lm
    by_cases h0 : left = 0
    · simp [h0]
    · rw [if_neg h0, if_neg h0]
      congr 2
      funext S
      by_cases hS : okB V S ∧ S &&& left = S
      · rw [if_pos hS, if_pos hS]
        have hle := sub_le hS.2
        have hp := pc_sd left hl S (by omega) hS.1.1 hS.2
        unfold cand
        rw [Lm_fuel k k' (sd left S) _ _ (sd_lt hl) (by omega) (by omega)]
      · rw [if_neg hS, if_neg hS]
theorem LL_0 {m : Nat} {V : Nat → Nat} {g t : Nat} : LL m V 0 g t = 0 := by simp [LL, Lm]
theorem LL_eq {m : Nat} {V : Nat → Nat} {left g t : Nat} (hl : left < 128) (h0 : left ≠ 0) : LL m V left g t = (mnF (fun S => if okB V S ∧ S &&& left = S then some (cand m V (LL m V) left g t S) else none) 128).getD 0 := by
  have h7 := pc_7 left hl
  unfold LL
  rw [Lm_fuel 7 8 left g t hl h7 (by omega)]
  rw [show Lm m V 8 left g t = if left = 0 then 0 else (mnF (fun S => if okB V S ∧ S &&& left = S then some (cand m V (Lm m V 7) left g t S) else none) 128).getD 0 from rfl, if_neg h0]
theorem LL_le {m : Nat} {V : Nat → Nat} {left g t S : Nat} (hl : left < 128) (hS : okB V S) (hs : S &&& left = S) : LL m V left g t ≤ cand m V (LL m V) left g t S := by
  have hle := sub_le hs
  have h0 : left ≠ 0 := fun z => hS.1 (by omega)
  rw [LL_eq hl h0]
  obtain ⟨r, h1, h2⟩ := mnF_le (f := fun S => if okB V S ∧ S &&& left = S then some (cand m V (LL m V) left g t S) else none) 128 S _ (by omega) (if_pos ⟨hS, hs⟩)
  rw [h1]
  exact h2
/-- bits of a set and one more job above it -/
theorem tb_top {o j i : Nat} (h : o < 2 ^ j) : (o ||| 2 ^ j).testBit i = if i = j then true else o.testBit i := by
  rw [Nat.testBit_or, Nat.testBit_two_pow]
  by_cases hi : i = j
  · subst hi; simp
  · rw [if_neg hi]
    have : ¬ j = i := fun q => hi q.symm
    simp [this]
theorem tb_hi {o j i : Nat} (h : o < 2 ^ j) (hi : j ≤ i) : o.testBit i = false := Nat.testBit_lt_two_pow (Nat.lt_of_lt_of_le h (Nat.pow_le_pow_right (by omega) hi))
theorem sumS_top {f : Nat → Nat} {o j : Nat} (h : o < 2 ^ j) : ∀ n, sumS f (o ||| 2 ^ j) n = sumS f o n + if j < n then f j else 0
  | 0 => by simp [sumS]
  | n + 1 => by
    have ih := sumS_top (f := f) h n
    unfold sumS
    rw [ih, tb_top h]
    by_cases h1 : n = j
    · subst h1
      rw [if_pos rfl, if_neg (Nat.lt_irrefl _), tb_hi h (Nat.le_refl _)]
      simp
    · rw [if_neg h1]
      by_cases h2 : j < n
      · have h3 : j < n + 1 := by omega
        simp only [h2, h3, if_true]; omega
      · have h3 : ¬ j < n + 1 := by omega
        simp only [h2, h3, if_false]; omega
theorem famR_zero {V : Nat → Nat} : ∀ n, famR V 0 n = 3
  | 0 => rfl
  | n + 1 => by simp [famR, famR_zero n]
theorem famR_top {V : Nat → Nat} (hV : VOk V) {o j : Nat} (h : o < 2 ^ j) (hj : j < 7) : ∀ n, n ≤ 7 → famR V (o ||| 2 ^ j) n = if famR V o n < 3 then famR V o n else if j < n then V (10 + j) else 3
  | 0, _ => by simp [famR]
  | n + 1, hn => by
    have ih := famR_top hV h hj n (by omega)
    have hfj := (hV.2.2.2.2.2.1 j hj).1
    have hle := famR_le hV o n (by omega)
    rw [show famR V (o ||| 2 ^ j) (n + 1) = if famR V (o ||| 2 ^ j) n < 3 then famR V (o ||| 2 ^ j) n else if (o ||| 2 ^ j).testBit n then V (10 + n) else 3 from rfl,
      show famR V o (n + 1) = if famR V o n < 3 then famR V o n else if o.testBit n then V (10 + n) else 3 from rfl, ih, tb_top h]
    by_cases h1 : famR V o n < 3
    · simp [h1]
    · by_cases h2 : j < n
      · have h3 : ¬ n = j := by omega
        have h4 : j < n + 1 := by omega
        have h5 := tb_hi h (Nat.le_of_lt h2)
        simp [h1, h2, h3, h4, h5, hfj]
      · by_cases h3 : n = j
        · subst h3
          have h5 := tb_hi h (Nat.le_refl n)
          simp [h1, h5]
        · have h4 : ¬ j < n + 1 := by omega
          by_cases h5 : o.testBit n = true
          · have h6 := (hV.2.2.2.2.2.1 n (by omega)).1
            simp [h1, h2, h3, h4, h5, h6]
          · have h5' : o.testBit n = false := by simpa using h5
            simp [h1, h2, h3, h4, h5']
theorem famR_none {V : Nat → Nat} (hV : VOk V) {S : Nat} : ∀ n, n ≤ 7 → (famR V S n < 3 ↔ ∃ j, j < n ∧ S.testBit j = true)
  | 0, _ => by simp [famR]
  | n + 1, hn => by
    have ih := famR_none hV (S := S) n (by omega)
    have h6 := (hV.2.2.2.2.2.1 n (by omega)).1
    unfold famR
    by_cases h1 : famR V S n < 3
    · rw [if_pos h1]
      obtain ⟨j, h2, h3⟩ := ih.mp h1
      exact ⟨fun _ => ⟨j, by omega, h3⟩, fun _ => h1⟩
    · rw [if_neg h1]
      by_cases h5 : S.testBit n = true
      · rw [if_pos h5]
        exact ⟨fun _ => ⟨n, by omega, h5⟩, fun _ => h6⟩
      · rw [if_neg h5]
        refine ⟨fun q => by omega, fun ⟨j, h2, h3⟩ => ?_⟩
        by_cases hjn : j = n
        · subst hjn; exact absurd h3 h5
        · exact absurd (ih.mpr ⟨j, by omega, h3⟩) h1
theorem pow_lt {j n : Nat} (h : j < n) : 2 ^ j < 2 ^ n := Nat.pow_lt_pow_right (by omega) h
theorem or_top_lt {o j n : Nat} (h : o < 2 ^ j) (hj : j < n) : o ||| 2 ^ j < 2 ^ n := Nat.or_lt_two_pow (Nat.lt_trans h (pow_lt hj)) (pow_lt hj)
theorem some_bit {V : Nat → Nat} (hV : VOk V) {S : Nat} (h0 : S ≠ 0) (h : S < 2 ^ V 9) : ∃ j, j < V 9 ∧ S.testBit j = true := by
  have h7 := hV.2.2.2.2.1
  obtain ⟨j, h1, h2⟩ := has_one S (Nat.lt_of_lt_of_le h (p7 h7)) h0
  refine ⟨j, ?_, h2⟩
  rcases Nat.lt_or_ge j (V 9) with q | q
  · exact q
  · rw [tb_hi h q] at h2; cases h2
theorem famS_lt {V : Nat → Nat} (hV : VOk V) {S : Nat} (h0 : S ≠ 0) (h : S < 2 ^ V 9) : famS V S < 3 := (famR_none hV (V 9) hV.2.2.2.2.1).mpr (some_bit hV h0 h)
theorem volS_top {V : Nat → Nat} {o j : Nat} (h : o < 2 ^ j) (hj : j < V 9) : volS V (o ||| 2 ^ j) = volS V o + V (17 + j) := by
  unfold volS
  rw [sumS_top h, if_pos hj]
theorem sumS_zero {f : Nat → Nat} : ∀ n, sumS f 0 n = 0
  | 0 => rfl
  | n + 1 => by simp [sumS, sumS_zero n]
theorem famS_top {V : Nat → Nat} (hV : VOk V) {o j : Nat} (h : o < 2 ^ j) (hj : j < V 9) : famS V (o ||| 2 ^ j) = if o = 0 then V (10 + j) else famS V o := by
  have h7 := hV.2.2.2.2.1
  unfold famS
  rw [famR_top hV h (by omega) _ h7, if_pos hj]
  by_cases h0 : o = 0
  · subst h0
    rw [famR_zero, if_neg (by omega), if_pos rfl]
  · have := famS_lt hV h0 (Nat.lt_trans h (pow_lt hj))
    unfold famS at this
    rw [if_pos this, if_neg h0]
/-- a batch is one with a job more -/
theorem okB_top {V : Nat → Nat} (hV : VOk V) {o j : Nat} (h : o < 2 ^ j) (hj : j < V 9) : okB V (o ||| 2 ^ j) ↔ o = 0 ∨ (okB V o ∧ famS V o = V (10 + j) ∧ volS V o + V (17 + j) ≤ V 6) := by
  have h7 := hV.2.2.2.2.1
  have hv := hV.2.2.2.2.2.1 j (by omega)
  have hr := hV.2.1
  have hne : o ||| 2 ^ j ≠ 0 := fun z => by
    have z2 : 2 ^ j ≤ o ||| 2 ^ j := Nat.right_le_or
    rw [z] at z2
    have := Nat.two_pow_pos j
    omega
  have hlt : o ||| 2 ^ j < 2 ^ V 9 := or_top_lt h hj
  unfold okB
  rw [famS_top hV h hj, volS_top h hj]
  by_cases h0 : o = 0
  · subst h0
    refine ⟨fun _ => Or.inl rfl, fun _ => ⟨hne, hlt, fun i hi hb => ?_, ?_⟩⟩
    · rw [tb_top h] at hb
      by_cases hij : i = j
      · subst hij; rw [if_pos rfl]
      · rw [if_neg hij] at hb; simp at hb
    · rw [show volS V 0 = 0 from sumS_zero _]; omega
  · rw [if_neg h0]
    constructor
    · rintro ⟨-, -, h3, h4⟩
      refine Or.inr ⟨⟨h0, Nat.lt_trans h (pow_lt hj), fun i hi hb => h3 i hi ?_, by omega⟩, ?_, h4⟩
      · rw [tb_top h]
        split
        · rfl
        · exact hb
      · exact (h3 j hj (by rw [tb_top h, if_pos rfl])).symm
    · rintro (z | ⟨⟨-, -, h3, -⟩, h5, h6⟩)
      · exact absurd z h0
      · refine ⟨hne, hlt, fun i hi hb => ?_, h6⟩
        rw [tb_top h] at hb
        by_cases hij : i = j
        · subst hij; exact h5.symm
        · rw [if_neg hij] at hb; exact h3 i hi hb
theorem okB_one {V : Nat → Nat} (hV : VOk V) {j : Nat} (hj : j < V 9) : okB V (2 ^ j) := by
  have := (okB_top hV (o := 0) (Nat.two_pow_pos j) hj).mpr (Or.inl rfl)
  rwa [Nat.zero_or] at this
theorem okB_lt {V : Nat → Nat} (hV : VOk V) {S : Nat} (h : okB V S) : S < 128 := Nat.lt_of_lt_of_le h.2.1 (p7 hV.2.2.2.2.1)
theorem LL_ex {m : Nat} {V : Nat → Nat} (hV : VOk V) {left g t : Nat} (hl : left < 2 ^ V 9) (h0 : left ≠ 0) : ∃ S, okB V S ∧ S &&& left = S ∧ LL m V left g t = cand m V (LL m V) left g t S := by
  have h7 := hV.2.2.2.2.1
  have hl7 : left < 128 := Nat.lt_of_lt_of_le hl (p7 h7)
  obtain ⟨j, hj, hb⟩ := some_bit hV h0 hl
  rw [LL_eq hl7 h0]
  obtain ⟨r, h1, -⟩ := mnF_le (f := fun S => if okB V S ∧ S &&& left = S then some (cand m V (LL m V) left g t S) else none) 128 (2 ^ j) _ (pow_lt (n := 7) (by omega)) (if_pos ⟨okB_one hV hj, bit_sub left hl7 j (by omega) hb⟩)
  obtain ⟨S, -, h3⟩ := mnF_ex 128 r h1
  by_cases hS : okB V S ∧ S &&& left = S
  · rw [if_pos hS] at h3
    rw [h1]
    exact ⟨S, hS.1, hS.2, (Option.some.inj h3).symm⟩
  · rw [if_neg hS] at h3; cases h3
theorem sd_sub {l s n : Nat} (h : l < 2 ^ n) : sd l s < 2 ^ n := Nat.lt_of_le_of_lt Nat.and_le_left h
/-- the time is not asked by measures 2 and 3 -/
theorem Lm_t {m : Nat} {V : Nat → Nat} (hm : 2 ≤ m) (hm4 : m < 4) : ∀ k left g t t', Lm m V k left g t = Lm m V k left g t'
  | 0, _, _, _, _ => rfl
  | k + 1, left, g, t, t' => by
    unfold Lm
    split
    · rfl
    · congr 2
      funext S
      split
      · congr 1
        unfold cand
        rw [Lm_t hm hm4 k _ _ (t + tk V g (famS V S)) (t' + tk V g (famS V S))]
        congr 1
        unfold part
        split
        · omega
        · have h3 : m = 3 := by omega
          rw [if_pos h3, if_pos h3]
      · rfl
theorem LL_t {m : Nat} {V : Nat → Nat} (hm : 2 ≤ m) (hm4 : m < 4) {left g t t' : Nat} : LL m V left g t = LL m V left g t' := Lm_t hm hm4 7 left g t t'
theorem part_le {m : Nat} {V : Nat → Nat} (hV : VOk V) {S t e : Nat} (he : e ≤ 400) : part m V S t e ≤ 2800 := by
  have h1 := lateR_le (m := m) (V := V) (S := S) (e := e) (V 9)
  have h2 : V 9 * e ≤ 7 * 400 := Nat.mul_le_mul hV.2.2.2.2.1 he
  unfold part
  split
  · omega
  · split <;> omega
/-- how much it can be: 2800 a batch -/
theorem LL_bd {m : Nat} {V : Nat → Nat} (hV : VOk V) : ∀ c left g t, left < 2 ^ V 9 → pc left ≤ c → t + 47 * pc left ≤ 329 → LL m V left g t ≤ 2800 * c
  | 0, left, g, t, hl, hc, _ => by
    have := pc_0 left (Nat.lt_of_lt_of_le hl (p7 hV.2.2.2.2.1)) (by omega)
    subst this
    rw [LL_0]; omega
  | c + 1, left, g, t, hl, hc, ht => by
    have hl7 : left < 128 := Nat.lt_of_lt_of_le hl (p7 hV.2.2.2.2.1)
    by_cases h0 : left = 0
    · subst h0; rw [LL_0]; omega
    · obtain ⟨S, hS, hs, e⟩ := LL_ex (m := m) hV (g := g) (t := t) hl h0
      have hp := pc_sd left hl7 S (okB_lt hV hS) hS.1 hs
      have hk := tk_le hV g (famS V S)
      have ih := LL_bd (m := m) hV c (sd left S) (famS V S) (t + tk V g (famS V S)) (sd_sub hl) (by omega) (by omega)
      have hp2 := part_le (m := m) hV (S := S) (t := t) (e := t + tk V g (famS V S)) (by omega)
      rw [e]
      unfold cand jn
      split
      · refine Nat.max_le.mpr ⟨?_, ?_⟩ <;> omega
      · omega
