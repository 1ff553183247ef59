section BASE
variable {K : Kt} {ls : Lc} {r : List Value} {σ : Mem} {a b i j n : Nat} {x : Int32}
def IsSh (b : Nat) : Prop := sh b = shShop b ∧ sh (b + 1) = shI 4 ∧ sh (b + 2) = shI 4 ∧ sh (b + 3) = shI 7 ∧ sh (b + 4) = shI 7 ∧ sh (b + 5) = shI 7
def IsPl (b : Nat) : Prop := sh b = shPlan b ∧ sh (b + 1) = shI 7 ∧ sh (b + 2) = shI 7
theorem IsSh.k (h : IsSh b) : (sh b).1 = 7 := by rw [h.1]; rfl
theorem IsPl.k (h : IsPl b) : (sh b).1 = 5 := by rw [h.1]; rfl
theorem sh0k : (sh 0).1 = 8 := rfl
theorem sh26k : (sh 26).1 = 4 := rfl
theorem sh52k : (sh 52).1 = 6 := rfl
theorem sh57k : (sh 57).1 = 9 := rfl
theorem isSh1 : IsSh 1 := ⟨rfl, rfl, rfl, rfl, rfl, rfl⟩
theorem isSh7 : IsSh 7 := ⟨rfl, rfl, rfl, rfl, rfl, rfl⟩
theorem isSh13 : IsSh 13 := ⟨rfl, rfl, rfl, rfl, rfl, rfl⟩
theorem isSh19 : IsSh 19 := ⟨rfl, rfl, rfl, rfl, rfl, rfl⟩
theorem isPl28 : IsPl 28 := ⟨rfl, rfl, rfl⟩
theorem isPl31 : IsPl 31 := ⟨rfl, rfl, rfl⟩
theorem isPl34 : IsPl 34 := ⟨rfl, rfl, rfl⟩
theorem isPl37 : IsPl 37 := ⟨rfl, rfl, rfl⟩
theorem isPl40 : IsPl 40 := ⟨rfl, rfl, rfl⟩
theorem isPl43 : IsPl 43 := ⟨rfl, rfl, rfl⟩
theorem isPl46 : IsPl 46 := ⟨rfl, rfl, rfl⟩
theorem gS0 (h : IsSh b) : o_getf 3 0 K ls (.ref b :: r) σ = K ls (.ref (b + 1) :: r) σ := by
  unfold o_getf
  simp only [h.1]
  exact propext ⟨fun h => h.2.2, fun h => ⟨rfl, Nat.le_of_ble_eq_true rfl, h⟩⟩
theorem gS1 (h : IsSh b) : o_getf 3 1 K ls (.ref b :: r) σ = K ls (.ref (b + 2) :: r) σ := by
  unfold o_getf
  simp only [h.1]
  exact propext ⟨fun h => h.2.2, fun h => ⟨rfl, Nat.le_of_ble_eq_true rfl, h⟩⟩
theorem gS2 (h : IsSh b) : o_getf 3 2 K ls (.ref b :: r) σ = K ls (.int (σ b 2) :: r) σ := by
  unfold o_getf
  simp only [h.1]
  exact propext ⟨fun h => h.2.2, fun h => ⟨rfl, Nat.le_of_ble_eq_true rfl, h⟩⟩
theorem pS2 (h : IsSh b) : o_putf 3 2 K ls (.int x :: .ref b :: r) σ = K ls r (wr σ b 2 x) := by
  unfold o_putf
  simp only [h.1]
  exact propext ⟨fun h => h.2.2.2, fun h => ⟨rfl, Nat.le_of_ble_eq_true rfl, rfl, h⟩⟩
theorem gS3 (h : IsSh b) : o_getf 3 3 K ls (.ref b :: r) σ = K ls (.int (σ b 3) :: r) σ := by
  unfold o_getf
  simp only [h.1]
  exact propext ⟨fun h => h.2.2, fun h => ⟨rfl, Nat.le_of_ble_eq_true rfl, h⟩⟩
theorem pS3 (h : IsSh b) : o_putf 3 3 K ls (.int x :: .ref b :: r) σ = K ls r (wr σ b 3 x) := by
  unfold o_putf
  simp only [h.1]
  exact propext ⟨fun h => h.2.2.2, fun h => ⟨rfl, Nat.le_of_ble_eq_true rfl, rfl, h⟩⟩
theorem gS4 (h : IsSh b) : o_getf 3 4 K ls (.ref b :: r) σ = K ls (.int (σ b 4) :: r) σ := by
  unfold o_getf
  simp only [h.1]
  exact propext ⟨fun h => h.2.2, fun h => ⟨rfl, Nat.le_of_ble_eq_true rfl, h⟩⟩
theorem pS4 (h : IsSh b) : o_putf 3 4 K ls (.int x :: .ref b :: r) σ = K ls r (wr σ b 4 x) := by
  unfold o_putf
  simp only [h.1]
  exact propext ⟨fun h => h.2.2.2, fun h => ⟨rfl, Nat.le_of_ble_eq_true rfl, rfl, h⟩⟩
theorem gS5 (h : IsSh b) : o_getf 3 5 K ls (.ref b :: r) σ = K ls (.int (σ b 5) :: r) σ := by
  unfold o_getf
  simp only [h.1]
  exact propext ⟨fun h => h.2.2, fun h => ⟨rfl, Nat.le_of_ble_eq_true rfl, h⟩⟩
theorem pS5 (h : IsSh b) : o_putf 3 5 K ls (.int x :: .ref b :: r) σ = K ls r (wr σ b 5 x) := by
  unfold o_putf
  simp only [h.1]
  exact propext ⟨fun h => h.2.2.2, fun h => ⟨rfl, Nat.le_of_ble_eq_true rfl, rfl, h⟩⟩
theorem gS6 (h : IsSh b) : o_getf 3 6 K ls (.ref b :: r) σ = K ls (.ref (b + 3) :: r) σ := by
  unfold o_getf
  simp only [h.1]
  exact propext ⟨fun h => h.2.2, fun h => ⟨rfl, Nat.le_of_ble_eq_true rfl, h⟩⟩
theorem gS7 (h : IsSh b) : o_getf 3 7 K ls (.ref b :: r) σ = K ls (.ref (b + 4) :: r) σ := by
  unfold o_getf
  simp only [h.1]
  exact propext ⟨fun h => h.2.2, fun h => ⟨rfl, Nat.le_of_ble_eq_true rfl, h⟩⟩
theorem gS8 (h : IsSh b) : o_getf 3 8 K ls (.ref b :: r) σ = K ls (.ref (b + 5) :: r) σ := by
  unfold o_getf
  simp only [h.1]
  exact propext ⟨fun h => h.2.2, fun h => ⟨rfl, Nat.le_of_ble_eq_true rfl, h⟩⟩
theorem gP0 (h : IsPl b) : o_getf 1 0 K ls (.ref b :: r) σ = K ls (.int (σ b 0) :: r) σ := by
  unfold o_getf
  simp only [h.1]
  exact propext ⟨fun h => h.2.2, fun h => ⟨rfl, Nat.le_of_ble_eq_true rfl, h⟩⟩
theorem gP1 (h : IsPl b) : o_getf 1 1 K ls (.ref b :: r) σ = K ls (.ref (b + 1) :: r) σ := by
  unfold o_getf
  simp only [h.1]
  exact propext ⟨fun h => h.2.2, fun h => ⟨rfl, Nat.le_of_ble_eq_true rfl, h⟩⟩
theorem gP2 (h : IsPl b) : o_getf 1 2 K ls (.ref b :: r) σ = K ls (.ref (b + 2) :: r) σ := by
  unfold o_getf
  simp only [h.1]
  exact propext ⟨fun h => h.2.2, fun h => ⟨rfl, Nat.le_of_ble_eq_true rfl, h⟩⟩
theorem pP0 (h : IsPl b) : o_putf 1 0 K ls (.int x :: .ref b :: r) σ = K ls r (wr σ b 0 x) := by
  unfold o_putf
  simp only [h.1]
  exact propext ⟨fun h => h.2.2.2, fun h => ⟨rfl, Nat.le_of_ble_eq_true rfl, rfl, h⟩⟩
theorem gH0 : o_getf 4 0 K ls (.ref 0 :: r) σ = K ls (.ref 1 :: r) σ := propext ⟨fun h => h.2.2, fun h => ⟨rfl, Nat.le_of_ble_eq_true rfl, h⟩⟩
theorem gH1 : o_getf 4 1 K ls (.ref 0 :: r) σ = K ls (.ref 7 :: r) σ := propext ⟨fun h => h.2.2, fun h => ⟨rfl, Nat.le_of_ble_eq_true rfl, h⟩⟩
theorem gH2 : o_getf 4 2 K ls (.ref 0 :: r) σ = K ls (.ref 25 :: r) σ := propext ⟨fun h => h.2.2, fun h => ⟨rfl, Nat.le_of_ble_eq_true rfl, h⟩⟩
theorem gH3 : o_getf 4 3 K ls (.ref 0 :: r) σ = K ls (.int (σ 0 3) :: r) σ := propext ⟨fun h => h.2.2, fun h => ⟨rfl, Nat.le_of_ble_eq_true rfl, h⟩⟩
theorem pH3 : o_putf 4 3 K ls (.int x :: .ref 0 :: r) σ = K ls r (wr σ 0 3 x) := propext ⟨fun h => h.2.2.2, fun h => ⟨rfl, Nat.le_of_ble_eq_true rfl, rfl, h⟩⟩
theorem gH4 : o_getf 4 4 K ls (.ref 0 :: r) σ = K ls (.ref 26 :: r) σ := propext ⟨fun h => h.2.2, fun h => ⟨rfl, Nat.le_of_ble_eq_true rfl, h⟩⟩
theorem gH5 : o_getf 4 5 K ls (.ref 0 :: r) σ = K ls (.ref 28 :: r) σ := propext ⟨fun h => h.2.2, fun h => ⟨rfl, Nat.le_of_ble_eq_true rfl, h⟩⟩
theorem gH6 : o_getf 4 6 K ls (.ref 0 :: r) σ = K ls (.ref 31 :: r) σ := propext ⟨fun h => h.2.2, fun h => ⟨rfl, Nat.le_of_ble_eq_true rfl, h⟩⟩
theorem gH7 : o_getf 4 7 K ls (.ref 0 :: r) σ = K ls (.ref 34 :: r) σ := propext ⟨fun h => h.2.2, fun h => ⟨rfl, Nat.le_of_ble_eq_true rfl, h⟩⟩
theorem gH8 : o_getf 4 8 K ls (.ref 0 :: r) σ = K ls (.ref 49 :: r) σ := propext ⟨fun h => h.2.2, fun h => ⟨rfl, Nat.le_of_ble_eq_true rfl, h⟩⟩
theorem gH9 : o_getf 4 9 K ls (.ref 0 :: r) σ = K ls (.ref 50 :: r) σ := propext ⟨fun h => h.2.2, fun h => ⟨rfl, Nat.le_of_ble_eq_true rfl, h⟩⟩
theorem gH10 : o_getf 4 10 K ls (.ref 0 :: r) σ = K ls (.ref 51 :: r) σ := propext ⟨fun h => h.2.2, fun h => ⟨rfl, Nat.le_of_ble_eq_true rfl, h⟩⟩
theorem gH11 : o_getf 4 11 K ls (.ref 0 :: r) σ = K ls (.ref 52 :: r) σ := propext ⟨fun h => h.2.2, fun h => ⟨rfl, Nat.le_of_ble_eq_true rfl, h⟩⟩
theorem gD0 : o_getf 0 0 K ls (.ref 26 :: r) σ = K ls (.int (σ 26 0) :: r) σ := propext ⟨fun h => h.2.2, fun h => ⟨rfl, Nat.le_of_ble_eq_true rfl, h⟩⟩
theorem pD0 : o_putf 0 0 K ls (.int x :: .ref 26 :: r) σ = K ls r (wr σ 26 0 x) := propext ⟨fun h => h.2.2.2, fun h => ⟨rfl, Nat.le_of_ble_eq_true rfl, rfl, h⟩⟩
theorem gD1 : o_getf 0 1 K ls (.ref 26 :: r) σ = K ls (.ref 27 :: r) σ := propext ⟨fun h => h.2.2, fun h => ⟨rfl, Nat.le_of_ble_eq_true rfl, h⟩⟩
theorem gE0 : o_getf 2 0 K ls (.ref 52 :: r) σ = K ls ((if σ 52 0 = 0 then Value.null else .ref (σ 52 0).toNatClampNeg) :: r) σ := propext ⟨fun h => h.2.2, fun h => ⟨rfl, Nat.le_of_ble_eq_true rfl, h⟩⟩
theorem pE0 (h0 : 0 < b) (h1 : b < 67) : o_putr 2 0 K ls (.ref b :: .ref 52 :: r) σ = K ls r (wr σ 52 0 (nI b)) := propext ⟨fun h => h.2.2.2.2.2, fun h => ⟨rfl, Nat.le_of_ble_eq_true rfl, rfl, h0, h1, h⟩⟩
theorem gE1 : o_getf 2 1 K ls (.ref 52 :: r) σ = K ls (.int (σ 52 1) :: r) σ := propext ⟨fun h => h.2.2, fun h => ⟨rfl, Nat.le_of_ble_eq_true rfl, h⟩⟩
theorem pE1 : o_putf 2 1 K ls (.int x :: .ref 52 :: r) σ = K ls r (wr σ 52 1 x) := propext ⟨fun h => h.2.2.2, fun h => ⟨rfl, Nat.le_of_ble_eq_true rfl, rfl, h⟩⟩
theorem gE2 : o_getf 2 2 K ls (.ref 52 :: r) σ = K ls (.ref 53 :: r) σ := propext ⟨fun h => h.2.2, fun h => ⟨rfl, Nat.le_of_ble_eq_true rfl, h⟩⟩
theorem gE3 : o_getf 2 3 K ls (.ref 52 :: r) σ = K ls (.ref 54 :: r) σ := propext ⟨fun h => h.2.2, fun h => ⟨rfl, Nat.le_of_ble_eq_true rfl, h⟩⟩
theorem gE4 : o_getf 2 4 K ls (.ref 52 :: r) σ = K ls (.int (σ 52 4) :: r) σ := propext ⟨fun h => h.2.2, fun h => ⟨rfl, Nat.le_of_ble_eq_true rfl, h⟩⟩
theorem pE4 : o_putf 2 4 K ls (.int x :: .ref 52 :: r) σ = K ls r (wr σ 52 4 x) := propext ⟨fun h => h.2.2.2, fun h => ⟨rfl, Nat.le_of_ble_eq_true rfl, rfl, h⟩⟩
theorem gE5 : o_getf 2 5 K ls (.ref 52 :: r) σ = K ls (.ref 55 :: r) σ := propext ⟨fun h => h.2.2, fun h => ⟨rfl, Nat.le_of_ble_eq_true rfl, h⟩⟩
theorem gE6 : o_getf 2 6 K ls (.ref 52 :: r) σ = K ls (.ref 56 :: r) σ := propext ⟨fun h => h.2.2, fun h => ⟨rfl, Nat.le_of_ble_eq_true rfl, h⟩⟩
theorem gM0 : o_getf 5 0 K ls (.ref 57 :: r) σ = K ls (.ref 58 :: r) σ := propext ⟨fun h => h.2.2, fun h => ⟨rfl, Nat.le_of_ble_eq_true rfl, h⟩⟩
theorem gM1 : o_getf 5 1 K ls (.ref 57 :: r) σ = K ls (.ref 59 :: r) σ := propext ⟨fun h => h.2.2, fun h => ⟨rfl, Nat.le_of_ble_eq_true rfl, h⟩⟩
theorem gM2 : o_getf 5 2 K ls (.ref 57 :: r) σ = K ls (.ref 60 :: r) σ := propext ⟨fun h => h.2.2, fun h => ⟨rfl, Nat.le_of_ble_eq_true rfl, h⟩⟩
theorem gM3 : o_getf 5 3 K ls (.ref 57 :: r) σ = K ls (.ref 61 :: r) σ := propext ⟨fun h => h.2.2, fun h => ⟨rfl, Nat.le_of_ble_eq_true rfl, h⟩⟩
theorem gM4 : o_getf 5 4 K ls (.ref 57 :: r) σ = K ls (.int (σ 57 4) :: r) σ := propext ⟨fun h => h.2.2, fun h => ⟨rfl, Nat.le_of_ble_eq_true rfl, h⟩⟩
theorem pM4 : o_putf 5 4 K ls (.int x :: .ref 57 :: r) σ = K ls r (wr σ 57 4 x) := propext ⟨fun h => h.2.2.2, fun h => ⟨rfl, Nat.le_of_ble_eq_true rfl, rfl, h⟩⟩
theorem gM5 : o_getf 5 5 K ls (.ref 57 :: r) σ = K ls (.ref 62 :: r) σ := propext ⟨fun h => h.2.2, fun h => ⟨rfl, Nat.le_of_ble_eq_true rfl, h⟩⟩
theorem gM6 : o_getf 5 6 K ls (.ref 57 :: r) σ = K ls (.int (σ 57 6) :: r) σ := propext ⟨fun h => h.2.2, fun h => ⟨rfl, Nat.le_of_ble_eq_true rfl, h⟩⟩
theorem pM6 : o_putf 5 6 K ls (.int x :: .ref 57 :: r) σ = K ls r (wr σ 57 6 x) := propext ⟨fun h => h.2.2.2, fun h => ⟨rfl, Nat.le_of_ble_eq_true rfl, rfl, h⟩⟩
theorem gM7 : o_getf 5 7 K ls (.ref 57 :: r) σ = K ls (.ref 63 :: r) σ := propext ⟨fun h => h.2.2, fun h => ⟨rfl, Nat.le_of_ble_eq_true rfl, h⟩⟩
theorem gM8 : o_getf 5 8 K ls (.ref 57 :: r) σ = K ls (.ref 64 :: r) σ := propext ⟨fun h => h.2.2, fun h => ⟨rfl, Nat.le_of_ble_eq_true rfl, h⟩⟩
theorem gM9 : o_getf 5 9 K ls (.ref 57 :: r) σ = K ls (.ref 65 :: r) σ := propext ⟨fun h => h.2.2, fun h => ⟨rfl, Nat.le_of_ble_eq_true rfl, h⟩⟩
theorem gM10 : o_getf 5 10 K ls (.ref 57 :: r) σ = K ls (.ref 66 :: r) σ := propext ⟨fun h => h.2.2, fun h => ⟨rfl, Nat.le_of_ble_eq_true rfl, h⟩⟩
theorem gM11 : o_getf 5 11 K ls (.ref 57 :: r) σ = K ls (.int (σ 57 11) :: r) σ := propext ⟨fun h => h.2.2, fun h => ⟨rfl, Nat.le_of_ble_eq_true rfl, h⟩⟩
theorem pM11 : o_putf 5 11 K ls (.int x :: .ref 57 :: r) σ = K ls r (wr σ 57 11 x) := propext ⟨fun h => h.2.2.2, fun h => ⟨rfl, Nat.le_of_ble_eq_true rfl, rfl, h⟩⟩
theorem gM12 : o_getf 5 12 K ls (.ref 57 :: r) σ = K ls (.int (σ 57 12) :: r) σ := propext ⟨fun h => h.2.2, fun h => ⟨rfl, Nat.le_of_ble_eq_true rfl, h⟩⟩
theorem pM12 : o_putf 5 12 K ls (.int x :: .ref 57 :: r) σ = K ls r (wr σ 57 12 x) := propext ⟨fun h => h.2.2.2, fun h => ⟨rfl, Nat.le_of_ble_eq_true rfl, rfl, h⟩⟩
/-- a place of a row of ints -/
theorem ldI (h : sh a = shI n) (hj : j < n) (hn : n < 2 ^ 31) : o_iaload K ls (.int (nI j) :: .ref a :: r) σ = K ls (.int (σ a j) :: r) σ := by
  unfold o_iaload
  simp only [h, nI_clamp (Nat.lt_trans hj hn)]
  exact propext ⟨fun h => h.2.2, fun h => ⟨rfl, vp_in_nI hj hn, h⟩⟩
theorem stI (h : sh a = shI n) (hj : j < n) (hn : n < 2 ^ 31) : o_iastore K ls (.int x :: .int (nI j) :: .ref a :: r) σ = K ls r (wr σ a j x) := by
  unfold o_iastore
  simp only [h, nI_clamp (Nat.lt_trans hj hn)]
  exact propext ⟨fun h => h.2.2, fun h => ⟨rfl, vp_in_nI hj hn, h⟩⟩
theorem ldZ (h : sh a = shZ n) (hj : j < n) (hn : n < 2 ^ 31) : o_baload K ls (.int (nI j) :: .ref a :: r) σ = K ls (.int (σ a j) :: r) σ := by
  unfold o_baload
  simp only [h, nI_clamp (Nat.lt_trans hj hn)]
  exact propext ⟨fun h => h.2.2, fun h => ⟨rfl, vp_in_nI hj hn, h⟩⟩
theorem stZ (h : sh a = shZ n) (hj : j < n) (hn : n < 2 ^ 31) : o_bastore K ls (.int x :: .int (nI j) :: .ref a :: r) σ = K ls r (wr σ a j (vp_nar .boolean x)) := by
  unfold o_bastore
  simp only [h, nI_clamp (Nat.lt_trans hj hn)]
  exact propext ⟨fun h => h.2.2, fun h => ⟨rfl, vp_in_nI hj hn, h⟩⟩
theorem ld7 (h : sh a = shI 7) (hj : j < 7) : o_iaload K ls (.int (nI j) :: .ref a :: r) σ = K ls (.int (σ a j) :: r) σ := ldI h hj (by decide)
theorem st7 (h : sh a = shI 7) (hj : j < 7) : o_iastore K ls (.int x :: .int (nI j) :: .ref a :: r) σ = K ls r (wr σ a j x) := stI h hj (by decide)
theorem ld4 (h : sh a = shI 4) (hj : j < 4) : o_iaload K ls (.int (nI j) :: .ref a :: r) σ = K ls (.int (σ a j) :: r) σ := ldI h hj (by decide)
theorem st4 (h : sh a = shI 4) (hj : j < 4) : o_iastore K ls (.int x :: .int (nI j) :: .ref a :: r) σ = K ls r (wr σ a j x) := stI h hj (by decide)
theorem wr_s : wr σ a i x a i = x := by simp [wr, va_up, upd]
theorem wr_n (h : ¬ (a = b ∧ i = j)) : wr σ b j x a i = σ a i := by
  unfold wr va_up upd
  by_cases h1 : a = b
  · subst h1
    have h2 : ¬ i = j := fun q => h ⟨rfl, q⟩
    simp [h2]
  · simp [h1]
theorem wr_o (h : a ≠ b) : wr σ b j x a = σ a := by
  unfold wr va_up
  simp [h]
end BASE
theorem nI_lit (n : Nat) : (OfNat.ofNat n : Int32) = nI n := rfl
theorem n0 : (0 : Int32) = nI 0 := by decide +kernel
theorem n1 : (1 : Int32) = nI 1 := by decide +kernel
theorem n2 : (2 : Int32) = nI 2 := by decide +kernel
theorem n3 : (3 : Int32) = nI 3 := by decide +kernel
theorem n4 : (4 : Int32) = nI 4 := by decide +kernel
theorem n7 : (7 : Int32) = nI 7 := by decide +kernel

