/-! the start: both objects new -/
def rShop : Nat → Int32 := fun k => match k with
  | 2 => 10
  | 3 => 1
  | 4 => 1
  | _ => 0
def rZ : Nat → Int32 := fun _ => 0
def rowsL : List (Nat → Int32) := [rZ, rShop, rHeat, rCook, rZ, rZ, rZ, rShop, rHeat, rCook, rZ, rZ, rZ, rShop, rHeat, rCook, rZ, rZ, rZ, rShop, rHeat, rCook, rZ, rZ, rZ,
  rZ, rZ, rZ, rZ, rZ, rZ, rZ, rZ, rZ, rZ, rZ, rZ, rZ, rZ, rZ, rZ, rZ, rZ, rZ, rZ, rZ, rZ, rZ, rZ, rZ, rZ, rZ, rZ, rZ, rZ, rZ, rZ, rZ, rState, rZ, rZ, rZ, rZ, rZ, rZ, rZ, rZ]
def σ0 : Mem := fun a => rowsL.getD a rZ
def V0 : Nat → Nat := fun k => match k with
  | 0 => 3
  | 1 => 6
  | 2 => 9
  | 3 => 5
  | 4 => 5
  | 5 => 5
  | 6 => 10
  | 7 => 1
  | 8 => 1
  | _ => 0
def A0 : ASt := (V0, V0, V0, 0, 0, fun _ => 0)
theorem V0_ok : VOk V0 := ⟨by decide, by decide, by decide, by decide, by decide, by decide, by decide⟩
theorem start_C : InvC σ0 A0 := by
  refine ⟨V0_ok, ⟨by decide +kernel, by decide +kernel, by decide +kernel⟩, ⟨by decide +kernel, ⟨by decide +kernel, by decide +kernel, fun z => ?_⟩, ⟨by decide +kernel, by decide +kernel, fun z => ?_⟩, ⟨by decide +kernel, by decide⟩, ⟨by decide, by decide +kernel, fun i hi => ?_⟩, 0, by decide +kernel, by decide, fun i _ => ⟨0, ?_, by decide, by decide⟩⟩, fun m hm => Or.inl ?_⟩
  · exact absurd (show (0 : Nat).testBit 0 = true from z) (by decide)
  · exact absurd (show (0 : Nat).testBit 1 = true from z) (by decide)
  · exact absurd (show i < 0 from hi) (Nat.not_lt_zero i)
  · show (0 : Int32) = nI 0
    exact n0
  · rfl
theorem start_M : InvM σ0 A0 := by
  refine ⟨show ∀ k, k < 31 → σ0 58 k = nI (V0 k) by decide +kernel, ⟨by decide +kernel, fun i hi => ?_⟩, fun z => ?_, fun z => ?_, by decide +kernel, by decide +kernel⟩
  · exact absurd (show i < 0 from hi) (Nat.not_lt_zero i)
  · exact absurd (show (0 : Nat).testBit 0 = true from z) (by decide)
  · exact absurd (show (0 : Nat).testBit 1 = true from z) (by decide)
def ad0 (b h0 : Nat) (u : Nat → Nat) (h1 : Nat) (v : Nat → Nat) : Nat → Nat := fun a => if a = 1000 then b else if a = 0 then h0 else if a < 57 then u a else if a = 57 then h1 else v (a - 57)
theorem qf2 {ad : Nat → Nat} : va_up (va_up (fun _ => none) (0 : Int32).toNatClampNeg (some (ad 13))) (1 : Int32).toNatClampNeg (some (ad 19)) = fun j => (([13, 19] : List Nat)[j]?).map ad := by
  funext j
  have e0 : (0 : Int32).toNatClampNeg = 0 := by decide
  have e1 : (1 : Int32).toNatClampNeg = 1 := by decide
  rw [e0, e1]
  match j with
  | 0 => rfl
  | 1 => rfl
  | j + 2 => simp [va_up]
theorem qf4 {ad : Nat → Nat} : va_up (va_up (va_up (va_up (fun _ => none) (0 : Int32).toNatClampNeg (some (ad 37))) (1 : Int32).toNatClampNeg (some (ad 40))) (2 : Int32).toNatClampNeg (some (ad 43))) (3 : Int32).toNatClampNeg (some (ad 46)) = fun j => (([37, 40, 43, 46] : List Nat)[j]?).map ad := by
  funext j
  have e0 : (0 : Int32).toNatClampNeg = 0 := by decide
  have e1 : (1 : Int32).toNatClampNeg = 1 := by decide
  have e2 : (2 : Int32).toNatClampNeg = 2 := by decide
  have e3 : (3 : Int32).toNatClampNeg = 3 := by decide
  rw [e0, e1, e2, e3]
  match j with
  | 0 => rfl
  | 1 => rfl
  | 2 => rfl
  | 3 => rfl
  | j + 4 => simp [va_up]
set_option maxRecDepth 100000 in
set_option maxHeartbeats 4000000 in
theorem ws0_eq {l : Launch} {D : va_G} {cA : Nat → ClassId} {b h0 h1 : Nat} {u v : Nat → Nat} : wsOf (l, D, ad0 b h0 u h1 v, cA) σ0 = BX4 cA h0 u ++ BX5 cA h1 v := by
  have q2 := qf2 (ad := ad0 b h0 u h1 v)
  have q4 := qf4 (ad := ad0 b h0 u h1 v)
  change va_up (va_up (fun _ => none) (0 : Int32).toNatClampNeg (some (u 13))) (1 : Int32).toNatClampNeg (some (u 19)) = _ at q2
  change va_up (va_up (va_up (va_up (fun _ => none) (0 : Int32).toNatClampNeg (some (u 37))) (1 : Int32).toNatClampNeg (some (u 40))) (2 : Int32).toNatClampNeg (some (u 43))) (3 : Int32).toNatClampNeg (some (u 46)) = _ at q4
  unfold BX4 BX5
  rw [q2, q4]
  rfl
theorem k_start {s : State} {args : Array Value} (hg : ∀ w ∈ gtbl, w.before args s = true) (hN : NX s) : ∃ (D : va_G) (cA : Nat → ClassId), va_K D vwCl (TyC cA) s := by
  obtain ⟨c0, i0, k0⟩ := u_known (C := RX0) (T := TX0) (N := 2) (n := 2) hg inG0 (hg _ (gt_i 70 (by decide +kernel) (by decide +kernel)))
  obtain ⟨c1', i1', k1⟩ := u_known (C := RX1) (T := TX1) (N := 3) (n := 3) hg inG1 (hg _ (gt_i 84 (by decide +kernel) (by decide +kernel)))
  obtain ⟨c2, i2, k2⟩ := u_known (C := RX2) (T := TX2) (N := 7) (n := 7) hg inG2 (hg _ (gt_i 102 (by decide +kernel) (by decide +kernel)))
  obtain ⟨c3, i3, k3⟩ := u_known (C := RX3) (T := TX3) (N := 9) (n := 9) hg inG3 (hg _ (gt_i 20 (by decide +kernel) (by decide +kernel)))
  obtain ⟨c4, i4, k4⟩ := u_known (C := RX4) (T := TX4) (N := 12) (n := 12) hg inG4 (hg _ (gt_i 12 (by decide +kernel) (by decide +kernel)))
  obtain ⟨c5, i5, k5⟩ := u_known (C := RX5) (T := TX5) (N := 13) (n := 13) hg inG5 (hg _ (gt_i 483 (by decide +kernel) (by decide +kernel)))
  obtain ⟨a0, b0, p0, f0, g0, h0⟩ := Cond.arrayClass_spec (hg (.arrayClass .int) (gt_i 67 (by decide +kernel) (by decide +kernel)))
  obtain ⟨a1, b1, p1, f1, g1, h1⟩ := Cond.arrayClass_spec (hg (.arrayClass .boolean) (gt_i 129 (by decide +kernel) (by decide +kernel)))
  obtain ⟨p2, a2, b2, e2, -, f2, g2, h2⟩ := Cond.arrayOver_spec (va_AO.use (A := #[]) hN.2.1)
  obtain ⟨p3, a3, b3, e3, -, f3, g3, h3⟩ := Cond.arrayOver_spec (va_AO.use (A := #[]) hN.2.2)
  refine ⟨(fun k => if k = 0 then c0 else if k = 1 then c1' else if k = 2 then c2 else if k = 3 then c3 else if k = 4 then c4 else c5, fun k => if k = 0 then i0 else if k = 1 then i1' else if k = 2 then i2 else if k = 3 then i3 else if k = 4 then i4 else i5), fun k => if k = 0 then a0 else if k = 1 then a1 else if k = 2 then a2 else a3, ?_, ?_⟩
  · intro k q hq
    match k, hq with
    | 0, hq => cases hq; exact k0
    | 1, hq => cases hq; exact k1
    | 2, hq => cases hq; exact k2
    | 3, hq => cases hq; exact k3
    | 4, hq => cases hq; exact k4
    | 5, hq => cases hq; exact k5
    | k + 6, hq => simp [vwCl] at hq
  · intro k q hq
    match k, hq with
    | 0, hq => cases hq; exact ⟨fun n z => ⟨(fun k h => by cases h), b0, g0, p0, h0⟩, f0⟩
    | 1, hq => cases hq; exact ⟨fun n z => ⟨(fun k h => by cases h), b1, g1, p1, h1⟩, f1⟩
    | 2, hq => cases hq; exact ⟨fun n z => ⟨(fun k h => by cases h), b2, f2, p2, g2⟩, b2, p2, f2, g2, e2, h2⟩
    | 3, hq => cases hq; exact ⟨fun n z => ⟨(fun k h => by cases h), b3, f3, p3, g3⟩, b3, p3, f3, g3, e3, h3⟩
    | k + 4, hq => simp at hq
