/-! what the document asks: a state, answers -/
abbrev ASt : Type := (Nat → Nat) × (Nat → Nat) × (Nat → Nat) × Nat × Nat × (Nat → Nat)
def fI (x : Int32) : Nat := x.toNatClampNeg
abbrev inR (x l m : Int32) : Prop := l ≤ x ∧ x ≤ m
abbrev isJ (A : ASt) (j : Int32) : Prop := inR j 0 (nI (A.1 9) - 1)
def setV (A : ASt) (k x : Nat) : ASt := (upN A.1 k x, A.2)
def opFamily (A : ASt) (f w v : Int32) : Int32 × ASt := if ¬ inR f 0 2 then (-1, A) else if w = 0 ∧ inR v 0 9 then (nI (A.1 (fI f)), setV A (fI f) (fI v)) else if w = 1 ∧ inR v 1 20 then (nI (A.1 (3 + fI f)), setV A (3 + fI f) (fI v)) else (-2, A)
def opSet (A : ASt) (w v : Int32) : Int32 × ASt := if w = 0 ∧ inR v 9 20 then (nI (A.1 6), setV A 6 (fI v)) else if w = 1 ∧ inR v 0 3 then (nI (A.1 7), setV A 7 (fI v)) else if w = 2 ∧ inR v 0 3 then (nI (A.1 8), setV A 8 (fI v)) else (-2, A)
def opJob (A : ASt) (f v u : Int32) : Int32 × ASt := if ¬ inR f 0 2 then (-1, A) else if ¬ (inR v 1 9 ∧ inR u 0 99) then (-2, A) else if A.1 9 = 7 then (-4, A) else (nI (A.1 9), (tkV A.1 (fI f) (fI v) (fI u), A.2))
def opDrop (A : ASt) (j : Int32) : Int32 × ASt := if ¬ isJ A j then (-1, A) else (nI (A.1 9 - 1), (rmV A.1 (fI j), A.2))
def opDue (A : ASt) (j u : Int32) : Int32 × ASt := if ¬ isJ A j then (-1, A) else if ¬ inR u 0 99 then (-2, A) else (nI (A.1 (24 + fI j)), setV A (24 + fI j) (fI u))
def opOf (A : ASt) (j w : Int32) : Int32 := if ¬ isJ A j then -1 else if w = 0 then nI (A.1 (10 + fI j)) else if w = 1 then nI (A.1 (17 + fI j)) else if w = 2 then nI (A.1 (24 + fI j)) else if w = 3 then nI (tN A.1 (fI j)) else -2
def opBest (A : ASt) (m : Int32) : Int32 := if inR m 0 3 then nI (best (fI m) A.1) else -2
def opPlan (A : ASt) (m b : Int32) : Int32 := if ¬ inR m 0 3 ∨ b < -1 then -2 else bhm (planP (fI m) A.1).1 (planP (fI m) A.1).2 b
def opEnd (A : ASt) (j m : Int32) : Int32 := if ¬ isJ A j then -1 else if ¬ inR m 0 3 then -2 else orNone (eoR A.1 (planP (fI m) A.1).2 (fI j) 0 (planP (fI m) A.1).1)
def opSlack (A : ASt) (j m : Int32) : Int32 := if ¬ isJ A j then -1 else if ¬ inR m 0 3 then -2 else nI (A.1 (24 + fI j) - ldue (fI m) A.1 (fI j))
def opRule (A : ASt) (b : Int32) : Int32 := if b < -1 then -2 else bhm (ruleP A.1).1 (ruleP A.1).2 b
def opRuled (A : ASt) (m : Int32) : Int32 := if ¬ inR m 0 3 then -2 else nI (meas (fI m) A.1 (ruleP A.1).1 (ruleP A.1).2)
def opSay (A : ASt) (s : Int32) : Int32 × ASt := if ¬ inR s 33 126 then (-2, A) else if A.2.2.2.2.1 = 14 then (-4, A) else (nI (A.2.2.2.2.1 + 1), (A.1, A.2.1, A.2.2.1, A.2.2.2.1, A.2.2.2.2.1 + 1, upN A.2.2.2.2.2 A.2.2.2.2.1 (fI s)))
def opWipe (A : ASt) : Int32 × ASt := (nI A.2.2.2.2.1, (A.1, A.2.1, A.2.2.1, A.2.2.2.1, 0, A.2.2.2.2.2))
abbrev pdF (A : ASt) : Option Nat := padFault A.1 A.2.2.2.2.1 A.2.2.2.2.2
abbrev pdK (A : ASt) : Nat := padK A.1 A.2.2.2.2.1 A.2.2.2.2.2
abbrev pdB (A : ASt) : Nat → Nat := padB A.1 A.2.2.2.2.1 A.2.2.2.2.2
def opFault (A : ASt) : Int32 := orNone (pdF A)
def opRow (A : ASt) (w : Int32) : Int32 := if ¬ inR w 0 4 then -2 else if pdF A ≠ none then -7 else if w = 4 then nI (orR (pdB A) (pdK A)) else nI (meas (fI w) A.1 (pdK A) (pdB A))
def opAt (A : ASt) (j : Int32) : Int32 := if ¬ isJ A j then -1 else if pdF A ≠ none then -7 else orNone (eoR A.1 (pdB A) (fI j) 0 (pdK A))
def opPut (A : ASt) (j w : Int32) : Int32 := if ¬ isJ A j then -1 else if ¬ inR w 0 1 then -2 else if pdF A ≠ none then -7 else if (orR (pdB A) (pdK A)).testBit (fI j) = true then -3 else
  if w = 0 then nI (putR A.1 (pdK A) (pdB A) (fI j) (2 * pdK A + 1)).1 else nI (putR A.1 (pdK A) (pdB A) (fI j) (2 * pdK A + 1)).2
def opImage (A : ASt) (k : Int32) : Int32 × ASt := if ¬ inR k 0 1 then (-2, A) else if k = 0 then (1, (A.1, A.1, A.2.2.1, A.2.2.2.1 ||| 1, A.2.2.2.2)) else (1, (A.1, A.2.1, A.1, A.2.2.2.1 ||| 2, A.2.2.2.2))
def opRestore (A : ASt) (k : Int32) : Int32 × ASt := if ¬ inR k 0 1 then (-2, A) else if A.2.2.2.1.testBit (fI k) = false then (-3, A) else if k = 0 then (1, (A.2.1, A.2)) else (1, (A.2.2.1, A.2))
def opCount (A : ASt) (w : Int32) : Int32 := if w = 0 then nI (A.1 9) else if w = 1 then nI (volS A.1 (fullS A.1)) else if w = 2 then nI (A.1 6) else if w = 3 then nI (A.1 7) else if w = 4 then nI (A.1 8) else if w = 5 then nI A.2.2.2.2.1 else if w = 6 then nI (fuR A.1 3) else if w = 7 then nI A.2.2.2.1 else
  if inR w 10 12 then nI (A.1 (fI w - 10)) else if inR w 20 22 then nI (A.1 (3 + (fI w - 20))) else -2
/-- the class's cells hold A -/
def CRest (σ : Mem) (A : ASt) : Prop := (σ 8 3 = nI 0 ∧ σ 9 3 = nI 0) ∧ (σ 14 3 = nI 0 ∧ σ 15 3 = nI 0 ∧ (A.2.2.2.1.testBit 0 = true → VOk A.2.1 ∧ ShAt σ 13 A.2.1)) ∧ (σ 20 3 = nI 0 ∧ σ 21 3 = nI 0 ∧ (A.2.2.2.1.testBit 1 = true → VOk A.2.2.1 ∧ ShAt σ 19 A.2.2.1)) ∧ (σ 0 3 = nI A.2.2.2.1 ∧ A.2.2.2.1 < 4) ∧ PadAt σ A.2.2.2.2.1 A.2.2.2.2.2 ∧ ∃ ag, KOld σ ag
def InvC (σ : Mem) (A : ASt) : Prop := VOk A.1 ∧ ShAt σ 1 A.1 ∧ CRest σ A ∧ ∀ m, m < 4 → BOk σ A.1 m
def FrC (σ τ : Mem) : Prop := ∀ a, 57 ≤ a → τ a = σ a
theorem KOld.fr {σ τ : Mem} {ag : Nat} (h : KOld σ ag) (h1 : τ 52 = σ 52) (h2 : τ 55 = σ 55) : KOld τ ag := by
  unfold KOld; rw [h1, h2]; exact h
theorem PadAt.fr {σ τ : Mem} {len : Nat} {sg : Nat → Nat} (h : PadAt σ len sg) (h1 : τ 26 = σ 26) (h2 : τ 27 = σ 27) : PadAt τ len sg := by
  unfold PadAt; rw [h1, h2]; exact h
theorem CRest.fr {σ τ : Mem} {A : ASt} (h : CRest σ A) (h1 : ∀ a, a = 0 ∨ a = 8 ∨ a = 9 ∨ (13 ≤ a ∧ a ≤ 24) ∨ a = 26 ∨ a = 27 ∨ a = 52 ∨ a = 55 → τ a = σ a) : CRest τ A := by
  obtain ⟨c1, c2, c3, c4, c5, ag, c6⟩ := h
  unfold CRest
  rw [h1 8 (by omega), h1 9 (by omega), h1 14 (by omega), h1 15 (by omega), h1 20 (by omega), h1 21 (by omega), h1 0 (by omega)]
  exact ⟨c1, ⟨c2.1, c2.2.1, fun z => ⟨(c2.2.2 z).1, (c2.2.2 z).2.fr (fun a _ _ => h1 a (by omega))⟩⟩, ⟨c3.1, c3.2.1, fun z => ⟨(c3.2.2 z).1, (c3.2.2 z).2.fr (fun a _ _ => h1 a (by omega))⟩⟩, c4, c5.fr (h1 26 (by omega)) (h1 27 (by omega)), ag, c6.fr (h1 52 (by omega)) (h1 55 (by omega))⟩
/-- behind forgetBest nothing is kept -/
theorem fz_o {σ : Mem} {a : Nat} (h : a ≠ 51) : fz σ a = σ a := by unfold fz; rw [wr_o h, wr_o h, wr_o h, wr_o h]
theorem fz_z {σ : Mem} {m : Nat} (h : m < 4) : fz σ 51 m = 0 := by
  unfold fz
  obtain rfl | rfl | rfl | rfl : m = 0 ∨ m = 1 ∨ m = 2 ∨ m = 3 := by omega
  · rw [wr_n (by omega), wr_n (by omega), wr_n (by omega), wr_s]
  · rw [wr_n (by omega), wr_n (by omega), wr_s]
  · rw [wr_n (by omega), wr_s]
  · rw [wr_s]
/-- a new V, all else as it was -/
theorem InvC.newV {σ τ : Mem} {A : ASt} {V : Nat → Nat} (h : InvC σ A) (hV : VOk V) (hs : ShAt τ 1 V) (hfr : ∀ a, (a < 1 ∨ 6 < a) → a ≠ 51 → τ a = σ a) (hz : ∀ m, m < 4 → τ 51 m = 0) : InvC τ (V, A.2) :=
  ⟨hV, hs, CRest.fr (A := (V, A.2)) h.2.2.1 (fun a ha => hfr a (by omega) (by omega)), fun m hm => Or.inl (hz m hm)⟩
theorem inN {x : Int32} {a b : Nat} (ha : a < 2 ^ 31) (hb : b < 2 ^ 31) (h : inR x (nI a) (nI b)) : ∃ n, a ≤ n ∧ n ≤ b ∧ x = nI n := by
  have h0 : ¬ x < 0 := by
    intro q
    have h1 := h.1
    rw [Int32.le_iff_toInt_le, nI_toInt ha] at h1
    rw [Int32.lt_iff_toInt_lt] at q
    have : (0 : Int32).toInt = 0 := by decide
    omega
  obtain ⟨n, h1, rfl⟩ := nI_of h0
  exact ⟨n, (nI_leI ha h1).mp h.1, (nI_leI h1 hb).mp h.2, rfl⟩
theorem inJ {x : Int32} {n : Nat} (hn : n ≤ 7) (h : inR x 0 (nI n - 1)) : ∃ j, j < n ∧ x = nI j := by
  obtain ⟨j, h1, h2⟩ := nI_of (x := x) (Int32.not_lt.mpr h.1)
  refine ⟨j, ?_, h2⟩
  have h3 := h.2
  rw [h2, n1, Int32.le_iff_toInt_le, pk_sub_toInt (by omega) (by omega), nI_toInt h1] at h3
  omega
theorem fI_n {n : Nat} (h : n < 2 ^ 31) : fI (nI n) = n := nI_clamp h
