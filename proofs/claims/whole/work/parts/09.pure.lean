/-! numbers, sets of jobs as numbers, and what a shop of 31 words comes to -/
theorem fa_and (a b : Nat) : nI a &&& nI b = nI (a &&& b) := by
  apply Int32.toBitVec_inj.1
  show BitVec.ofNat 32 a &&& BitVec.ofNat 32 b = BitVec.ofNat 32 (a &&& b)
  apply BitVec.eq_of_getLsbD_eq
  intro i hi
  simp [hi]
theorem fa_or (a b : Nat) : nI a ||| nI b = nI (a ||| b) := by
  apply Int32.toBitVec_inj.1
  show BitVec.ofNat 32 a ||| BitVec.ofNat 32 b = BitVec.ofNat 32 (a ||| b)
  apply BitVec.eq_of_getLsbD_eq
  intro i hi
  simp [hi]
theorem s_l31 : ∀ n, n < 32 → ((nI n &&& 31).toBitVec.smod 32).toNat = n := by decide +kernel
theorem shrN {S j : Nat} (hS : S < 2 ^ 31) (hj : j < 32) : nI S >>> (nI j &&& 31) = nI (S / 2 ^ j) := pk_shrN hS _ j (s_l31 j hj)
theorem shlN {S j : Nat} (hj : j < 32) (h : S * 2 ^ j < 2 ^ 32) : nI S <<< (nI j &&& 31) = nI (S * 2 ^ j) := pk_shlN _ j (s_l31 j hj) h
theorem shl1 : ∀ j, j < 31 → nI 1 <<< (nI j &&& 31) = nI (2 ^ j) := by decide +kernel
theorem and1N {n : Nat} (h : n < 2 ^ 32) : nI n &&& nI 1 = nI (n % 2) := by
  have := pk_andN h (m := nI 1) 1 (by decide)
  simpa using this
theorem tb_div (S j : Nat) : S / 2 ^ j % 2 = if S.testBit j then 1 else 0 := by
  rw [Nat.testBit_eq_decide_div_mod_eq]
  by_cases h : S / 2 ^ j % 2 = 1
  · simp [h]
  · have : S / 2 ^ j % 2 = 0 := by omega
    simp [this]
theorem has_bit {S j : Nat} (hS : S < 2 ^ 31) (hj : j < 31) : nI S >>> (nI j &&& 31) &&& nI 1 = nI (if S.testBit j then 1 else 0) := by
  rw [shrN hS (by omega), and1N (Nat.lt_of_le_of_lt (Nat.div_le_self _ _) (by omega)), tb_div]
theorem nEq {a b : Nat} (ha : a < 2 ^ 31) (hb : b < 2 ^ 31) : (nI a = nI b) = (a = b) := propext (nI_eq ha hb)
theorem nLe {a b : Nat} (ha : a < 2 ^ 31) (hb : b < 2 ^ 31) : (nI a ≤ nI b) = (a ≤ b) := propext (nI_leI ha hb)
theorem nLt {a b : Nat} (ha : a < 2 ^ 31) (hb : b < 2 ^ 31) : (nI a < nI b) = (a < b) := propext (nI_ltI ha hb)
theorem nSub {a b : Nat} (h : b ≤ a) : nI a - nI b = nI (a - b) := pk_sub h
theorem n5 : (5 : Int32) = nI 5 := by decide +kernel
theorem n6 : (6 : Int32) = nI 6 := by decide +kernel
theorem n8 : (8 : Int32) = nI 8 := by decide +kernel
theorem n9 : (9 : Int32) = nI 9 := by decide +kernel
theorem n10 : (10 : Int32) = nI 10 := by decide +kernel
theorem n17 : (17 : Int32) = nI 17 := by decide +kernel
theorem n20 : (20 : Int32) = nI 20 := by decide +kernel
theorem n24 : (24 : Int32) = nI 24 := by decide +kernel
theorem n31 : (31 : Int32) = nI 31 := by decide +kernel
theorem n99 : (99 : Int32) = nI 99 := by decide +kernel
theorem n100 : (100 : Int32) = nI 100 := by decide +kernel
theorem n14 : (14 : Int32) = nI 14 := by decide +kernel
theorem n47 : (47 : Int32) = nI 47 := by decide +kernel
theorem n48 : (48 : Int32) = nI 48 := by decide +kernel
/-- one of an order -/
def jn (m a b : Nat) : Nat := if m = 0 then max a b else a + b
/-- the sum over the jobs of a set -/
def sumS (f : Nat → Nat) (S : Nat) : Nat → Nat
  | 0 => 0
  | n + 1 => sumS f S n + if S.testBit n then f n else 0
/-- HEAT, COOK of a FAMILY; 3: of none -/
def ht (V : Nat → Nat) (f : Nat) : Nat := if f < 3 then V f else 0
def ck (V : Nat → Nat) (f : Nat) : Nat := if f < 3 then V (3 + f) else 0
/-- the family of the first job of a set; 3: there is none -/
def famR (V : Nat → Nat) (S : Nat) : Nat → Nat
  | 0 => 3
  | n + 1 => if famR V S n < 3 then famR V S n else if S.testBit n then V (10 + n) else 3
def tk (V : Nat → Nat) (g f : Nat) : Nat := (if ht V g < ht V f then V 7 * (ht V f - ht V g) else V 8 * (ht V g - ht V f)) + ck V f
def lateR (m : Nat) (V : Nat → Nat) (S e : Nat) : Nat → Nat
  | 0 => 0
  | n + 1 => if S.testBit n then jn m (lateR m V S e n) (e - V (24 + n)) else lateR m V S e n
def memR (V : Nat → Nat) (f : Nat) : Nat → Nat
  | 0 => 0
  | n + 1 => if V (10 + n) = f then memR V f n ||| 2 ^ n else memR V f n
/-- TIGHT and 100, added -/
def tN (V : Nat → Nat) (j : Nat) : Nat := (V (24 + j) + 100 * max 1 (V (17 + j)) - ck V (V (10 + j))) / max 1 (V (17 + j))
def VOk (V : Nat → Nat) : Prop := (∀ f, f < 3 → V f ≤ 9 ∧ 1 ≤ V (3 + f) ∧ V (3 + f) ≤ 20) ∧ (9 ≤ V 6 ∧ V 6 ≤ 20) ∧ V 7 ≤ 3 ∧ V 8 ≤ 3 ∧ V 9 ≤ 7 ∧ (∀ j, j < 7 → V (10 + j) < 3 ∧ V (17 + j) ≤ 9 ∧ V (24 + j) ≤ 99) ∧ ∀ j, j < V 9 → 1 ≤ V (17 + j)
theorem ht_le {V : Nat → Nat} (h : VOk V) (f : Nat) : ht V f ≤ 9 := by
  unfold ht
  split
  · exact (h.1 f (by assumption)).1
  · omega
theorem ck_le {V : Nat → Nat} (h : VOk V) (f : Nat) : ck V f ≤ 20 := by
  unfold ck
  split
  · exact (h.1 f (by assumption)).2.2
  · omega
theorem tk_le {V : Nat → Nat} (h : VOk V) (g f : Nat) : tk V g f ≤ 47 := by
  have h1 := ht_le h g
  have h2 := ht_le h f
  have h3 := ck_le h f
  have h4 := h.2.2.1
  have h5 := h.2.2.2.1
  unfold tk
  split
  · have : V 7 * (ht V f - ht V g) ≤ 3 * 9 := Nat.mul_le_mul h4 (by omega)
    omega
  · have : V 8 * (ht V g - ht V f) ≤ 3 * 9 := Nat.mul_le_mul h5 (by omega)
    omega
theorem famR_le {V : Nat → Nat} (h : VOk V) (S : Nat) : ∀ n, n ≤ 7 → famR V S n ≤ 3
  | 0, _ => by simp [famR]
  | n + 1, hn => by
    have h1 := famR_le h S n (by omega)
    have h2 := (h.2.2.2.2.2.1 n (by omega)).1
    unfold famR
    split
    · omega
    · split <;> omega
theorem sumS_le {f : Nat → Nat} {c : Nat} (S : Nat) : ∀ n, (∀ j, j < n → f j ≤ c) → sumS f S n ≤ n * c
  | 0, _ => by simp [sumS]
  | n + 1, h => by
    have h1 := sumS_le S n (fun j hj => h j (by omega))
    have h2 := h n (by omega)
    unfold sumS
    rw [Nat.add_mul]
    split <;> omega
theorem lateR_le {m : Nat} {V : Nat → Nat} {S e : Nat} : ∀ n, lateR m V S e n ≤ n * e
  | 0 => by simp [lateR]
  | n + 1 => by
    have h1 := lateR_le (m := m) (V := V) (S := S) (e := e) n
    unfold lateR jn
    rw [Nat.add_mul]
    split
    · split
      · have : max (lateR m V S e n) (e - V (24 + n)) ≤ n * e + e := Nat.max_le.mpr ⟨by omega, by omega⟩
        omega
      · omega
    · omega
/-- a shop's cells hold V -/
def ShAt (σ : Mem) (b : Nat) (V : Nat → Nat) : Prop := (∀ f, f < 4 → σ (b + 1) f = nI (ht V f) ∧ σ (b + 2) f = nI (ck V f)) ∧ (σ b 2 = nI (V 6) ∧ σ b 3 = nI (V 7) ∧ σ b 4 = nI (V 8) ∧ σ b 5 = nI (V 9)) ∧ ∀ j, j < 7 → σ (b + 3) j = nI (V (10 + j)) ∧ σ (b + 4) j = nI (V (17 + j)) ∧ σ (b + 5) j = nI (V (24 + j))
section SHAT
variable {σ : Mem} {b : Nat} {V : Nat → Nat}
theorem ShAt.h (h : ShAt σ b V) (f : Nat) (hf : f < 4) : σ (b + 1) f = nI (ht V f) := (h.1 f hf).1
theorem ShAt.c (h : ShAt σ b V) (f : Nat) (hf : f < 4) : σ (b + 2) f = nI (ck V f) := (h.1 f hf).2
theorem ShAt.room (h : ShAt σ b V) : σ b 2 = nI (V 6) := h.2.1.1
theorem ShAt.up (h : ShAt σ b V) : σ b 3 = nI (V 7) := h.2.1.2.1
theorem ShAt.down (h : ShAt σ b V) : σ b 4 = nI (V 8) := h.2.1.2.2.1
theorem ShAt.n (h : ShAt σ b V) : σ b 5 = nI (V 9) := h.2.1.2.2.2
theorem ShAt.f (h : ShAt σ b V) (j : Nat) (hj : j < 7) : σ (b + 3) j = nI (V (10 + j)) := (h.2.2 j hj).1
theorem ShAt.v (h : ShAt σ b V) (j : Nat) (hj : j < 7) : σ (b + 4) j = nI (V (17 + j)) := (h.2.2 j hj).2.1
theorem ShAt.d (h : ShAt σ b V) (j : Nat) (hj : j < 7) : σ (b + 5) j = nI (V (24 + j)) := (h.2.2 j hj).2.2
end SHAT
theorem tk_pos : ∀ u, u < 4 → ∀ a, a < 10 → ∀ b, b < 10 → b < a → nI u * (nI a - nI b) = nI (u * (a - b)) := by decide +kernel
theorem tk_neg : ∀ u, u < 4 → ∀ a, a < 10 → ∀ b, b < 10 → a ≤ b → -nI u * (nI a - nI b) = nI (u * (b - a)) := by decide +kernel
theorem sub_le0 : ∀ a, a < 10 → ∀ b, b < 10 → (nI a - nI b ≤ nI 0 ↔ a ≤ b) := by decide +kernel
theorem over_le0 : ∀ a, a < 600 → ∀ b, b < 100 → (nI a - nI b ≤ nI 0 ↔ a ≤ b) := by
  intro a ha b hb
  rw [Int32.le_iff_toInt_le, pk_sub_toInt (by omega) (by omega), nI_toInt (by omega)]
  omega
