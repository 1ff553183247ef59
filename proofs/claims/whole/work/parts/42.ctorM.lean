/-! constructors -/
theorem v_36 : Cond.code yX5_init cX5_init 2 none ∈ gtbl := gt_i 486 (by decide +kernel) (by decide +kernel)
theorem v_37 : Cond.initialized RX5 ∈ gtbl := gt_i 6 (by decide +kernel) (by decide +kernel)
theorem v_38 : Cond.methodLink RX5 1 objectInit ∈ gtbl := gt_i 487 (by decide +kernel) (by decide +kernel)
theorem v_39 : Cond.fieldLink RX5 7 "HeatBatchesModel" "state" "[I" ∈ gtbl := gt_i 489 (by decide +kernel) (by decide +kernel)
theorem v_40 : Cond.fieldLink RX5 13 "HeatBatchesModel" "images" "[I" ∈ gtbl := gt_i 490 (by decide +kernel) (by decide +kernel)
theorem v_41 : Cond.arrayClass .boolean ∈ gtbl := gt_i 129 (by decide +kernel) (by decide +kernel)
theorem v_42 : Cond.fieldLink RX5 16 "HeatBatchesModel" "isKept" "[Z" ∈ gtbl := gt_i 491 (by decide +kernel) (by decide +kernel)
theorem v_43 : Cond.fieldLink RX5 20 "HeatBatchesModel" "pad" "[I" ∈ gtbl := gt_i 492 (by decide +kernel) (by decide +kernel)
theorem v_44 : Cond.fieldLink RX5 23 "HeatBatchesModel" "plan" "[I" ∈ gtbl := gt_i 494 (by decide +kernel) (by decide +kernel)
theorem v_45 : Cond.fieldLink RX5 26 "HeatBatchesModel" "endAt" "[I" ∈ gtbl := gt_i 496 (by decide +kernel) (by decide +kernel)
theorem v_46 : Cond.fieldLink RX5 29 "HeatBatchesModel" "batchFamily" "[I" ∈ gtbl := gt_i 497 (by decide +kernel) (by decide +kernel)
theorem v_47 : Cond.constant RX5 32 168960 ∈ gtbl := gt_i 488 (by decide +kernel) (by decide +kernel)
theorem v_48 : Cond.fieldLink RX5 33 "HeatBatchesModel" "comes" "[Z" ∈ gtbl := gt_i 498 (by decide +kernel) (by decide +kernel)
theorem v_49 : Cond.fieldLink RX5 36 "HeatBatchesModel" "least" "[I" ∈ gtbl := gt_i 499 (by decide +kernel) (by decide +kernel)
def MX5_init : Mth := (yX5_init, cX5_init, 2, none, fun _ _ _ => True)
theorem mkX5_init : MOk MX5_init := ⟨by decide +kernel, v_36, v_37, ⟨by decide +kernel, by decide +kernel⟩, by decide +kernel, fun _ _ _ => trivial⟩
theorem f_X5 : ∀ j, j < 13 → defaultValue (tyX5 j) = vp_V [.null, .null, .null, .null, .int 0, .null, .int 0, .null, .null, .null, .null, .int 0, .int 0] j := fun j hj => by rcases (show j = 0 ∨ j = 1 ∨ j = 2 ∨ j = 3 ∨ j = 4 ∨ j = 5 ∨ j = 6 ∨ j = 7 ∨ j = 8 ∨ j = 9 ∨ j = 10 ∨ j = 11 ∨ j = 12 by omega) with rfl | rfl | rfl | rfl | rfl | rfl | rfl | rfl | rfl | rfl | rfl | rfl | rfl <;> rfl
abbrev BX5 (cA : Nat → ClassId) (h0 : Nat) (u : Nat → Nat) : va_W := [(h0, .inr (5, [.ref (u 1), .ref (u 2), .ref (u 3), .ref (u 4), .int 0, .ref (u 5), .int 0, .ref (u 6), .ref (u 7), .ref (u 8), .ref (u 9), .int 0, .int 0])), ((u 1), .inl (cA 0, 31, .inl rState)), ((u 2), .inl (cA 0, 62, .inl (fun _ => 0))), ((u 3), .inl (cA 1, 2, .inl (fun _ => 0))), ((u 4), .inl (cA 0, 14, .inl (fun _ => 0))), ((u 5), .inl (cA 0, 15, .inl (fun _ => 0))), ((u 6), .inl (cA 0, 15, .inl (fun _ => 0))), ((u 7), .inl (cA 0, 128, .inl (fun _ => 0))), ((u 8), .inl (cA 1, 168960, .inl (fun _ => 0))), ((u 9), .inl (cA 0, 168960, .inl (fun _ => 0)))]
set_option maxHeartbeats 4000000 in
set_option maxRecDepth 100000 in
theorem c_X5 (l : Launch) (D : va_G) (cA : Nat → ClassId) : Ctor l D cA MX5_init { frames := 1, cells := 9, slots := 338187, locals := 12 } 5 [.null, .null, .null, .null, .int 0, .null, .int 0, .null, .null, .null, .null, .int 0, .int 0] (BX5 cA) 9 338187 := by
  intro h0 sz
  refine Met.ofW (cc := cX5_init) (maxL := 2) (ret := none) (by decide) rfl ?_
  intro p e s m args below meth c s₁ B hml hv
  obtain ⟨rfl, hsz, hP, hK, hD0, hN⟩ := hv
  have hx := B.exec
  have hb := B.bytes
  have hr := B.returns
  have hts := atoms_spec (ws := wsM MX5_init) B.pre
  have hg : ∀ w ∈ gtbl, w.before _ s = true := fun w hw => hts w (List.mem_cons_of_mem _ hw)
  have hown : s.vm.findClass RX5 = some m.cls := findClass_of_methodNamed B.named
  have hin : meth.name = "<init>" := (name_of_methodNamed B.named B.method).1
  subst hsz
  have hD := hD0.self (sz := s.heap.size)
  generalize hAe : va_A [(h0, .inr (5, [.null, .null, .null, .null, .int 0, .null, .int 0, .null, .null, .null, .null, .int 0, .int 0]))] s.heap.size = A at hD ⊢
  have hA : ∀ q : Nat, s.heap.size ≤ q → A q := fun q h => by rw [← hAe]; exact Or.inr h
  have hS : va_S A s.heap s.heap [] := va_S.rf
  have hl := lv_entry ([.ref h0]) (n := 2) (Nat.le_of_ble_eq_true rfl)
  rw [lg_entry_eq]
  generalize (lg_sl ([.ref h0]) ++ List.replicate (2 - (lg_sl ([.ref h0])).length) Slot.unset).toArray = ls at hl ⊢
  have hl : lv_has ls 2 [(0, .ref h0)] := hl
  refine lv_aload_n hx hb dX5_init_0 rfl (lv_at hl 0 rfl) ?_
  refine W.objInit hx hb hown (hg _ v_38) (hg _ v_3) (hg _ v_4) rfl (by rw [hml]; exact hl.1) rfl dX5_init_1 (Nat.le_of_ble_eq_true rfl) (Nat.le_of_ble_eq_true rfl) ?_
  refine W.eq (g2 := F0 m 4 ls []) rfl ?_
  refine lv_aload_n hx hb dX5_init_4 rfl (lv_at hl 0 rfl) ?_
  refine lv_bipush (v := 31) hx hb dX5_init_5 (by decide +kernel) ?_
  refine c_newI (cA := cA) (N' := 31) hx hb hg hK hP hD hS hA v_6 (by decide) (by decide +kernel) (Nat.le_of_ble_eq_true rfl) (Nat.le_of_ble_eq_true rfl) (Nat.le_of_ble_eq_true rfl) dX5_init_7 (fun q5 H hP hD hS => ?_)
  have hP : va_P D vwCl [(h0, .inr (5, [.null, .null, .null, .null, .int 0, .null, .int 0, .null, .null, .null, .null, .int 0, .int 0])), (q5, .inl (cA 0, 31, .inl (fun _ => 0)))] H := hP
  have hD : va_D A [(h0, .inr (5, [.null, .null, .null, .null, .int 0, .null, .int 0, .null, .null, .null, .null, .int 0, .int 0])), (q5, .inl (cA 0, 31, .inl (fun _ => 0)))] := hD
  refine W.widen (k := 1) (n := 31) (Nat.le_of_ble_eq_true rfl) (Nat.le_of_ble_eq_true rfl) ?_
  refine va_putF (D := D) (ci := 5) (v := .ref q5) (ty := .array .int) (C := RX5) (T := TX5) (N := 13) hx hb hg inG5 tyX5 tyX5_ok nmX5 hown hK hP hD hS 0 rfl rfl 0 (by decide) (hg _ v_39) (fun _ h9 => h9) rfl hin rfl (by decide +kernel) rfl rfl (Nat.le_of_ble_eq_true rfl) dX5_init_9 (fun H locs hP hD hS => ?_)
  have hP : va_P D vwCl [(h0, .inr (5, [.ref q5, .null, .null, .null, .int 0, .null, .int 0, .null, .null, .null, .null, .int 0, .int 0])), (q5, .inl (cA 0, 31, .inl (fun _ => 0)))] H := hP
  have hD : va_D A [(h0, .inr (5, [.ref q5, .null, .null, .null, .int 0, .null, .int 0, .null, .null, .null, .null, .int 0, .int 0])), (q5, .inl (cA 0, 31, .inl (fun _ => 0)))] := hD
  refine lv_aload_n hx hb dX5_init_12 rfl (lv_at hl 0 rfl) ?_
  refine lv_bipush (v := 62) hx hb dX5_init_13 (by decide +kernel) ?_
  refine c_newI (cA := cA) (N' := 62) hx hb hg hK hP hD hS hA v_6 (by decide) (by decide +kernel) (Nat.le_of_ble_eq_true rfl) (Nat.le_of_ble_eq_true rfl) (Nat.le_of_ble_eq_true rfl) dX5_init_15 (fun q9 H hP hD hS => ?_)
  have hP : va_P D vwCl [(h0, .inr (5, [.ref q5, .null, .null, .null, .int 0, .null, .int 0, .null, .null, .null, .null, .int 0, .int 0])), (q5, .inl (cA 0, 31, .inl (fun _ => 0))), (q9, .inl (cA 0, 62, .inl (fun _ => 0)))] H := hP
  have hD : va_D A [(h0, .inr (5, [.ref q5, .null, .null, .null, .int 0, .null, .int 0, .null, .null, .null, .null, .int 0, .int 0])), (q5, .inl (cA 0, 31, .inl (fun _ => 0))), (q9, .inl (cA 0, 62, .inl (fun _ => 0)))] := hD
  refine W.widen (k := 2) (n := 93) (Nat.le_of_ble_eq_true rfl) (Nat.le_of_ble_eq_true rfl) ?_
  refine va_putF (D := D) (ci := 5) (v := .ref q9) (ty := .array .int) (C := RX5) (T := TX5) (N := 13) hx hb hg inG5 tyX5 tyX5_ok nmX5 hown hK hP hD hS 0 rfl rfl 1 (by decide) (hg _ v_40) (fun _ h9 => h9) rfl hin rfl (by decide +kernel) rfl rfl (Nat.le_of_ble_eq_true rfl) dX5_init_17 (fun H locs hP hD hS => ?_)
  have hP : va_P D vwCl [(h0, .inr (5, [.ref q5, .ref q9, .null, .null, .int 0, .null, .int 0, .null, .null, .null, .null, .int 0, .int 0])), (q5, .inl (cA 0, 31, .inl (fun _ => 0))), (q9, .inl (cA 0, 62, .inl (fun _ => 0)))] H := hP
  have hD : va_D A [(h0, .inr (5, [.ref q5, .ref q9, .null, .null, .int 0, .null, .int 0, .null, .null, .null, .null, .int 0, .int 0])), (q5, .inl (cA 0, 31, .inl (fun _ => 0))), (q9, .inl (cA 0, 62, .inl (fun _ => 0)))] := hD
  refine lv_aload_n hx hb dX5_init_20 rfl (lv_at hl 0 rfl) ?_
  refine lv_iconst (v := 2) hx hb dX5_init_21 (by decide) ?_
  refine c_newZ (cA := cA) (N' := 2) hx hb hg hK hP hD hS hA v_41 (by decide) (by decide +kernel) (Nat.le_of_ble_eq_true rfl) (Nat.le_of_ble_eq_true rfl) (Nat.le_of_ble_eq_true rfl) dX5_init_22 (fun q13 H hP hD hS => ?_)
  have hP : va_P D vwCl [(h0, .inr (5, [.ref q5, .ref q9, .null, .null, .int 0, .null, .int 0, .null, .null, .null, .null, .int 0, .int 0])), (q5, .inl (cA 0, 31, .inl (fun _ => 0))), (q9, .inl (cA 0, 62, .inl (fun _ => 0))), (q13, .inl (cA 1, 2, .inl (fun _ => 0)))] H := hP
  have hD : va_D A [(h0, .inr (5, [.ref q5, .ref q9, .null, .null, .int 0, .null, .int 0, .null, .null, .null, .null, .int 0, .int 0])), (q5, .inl (cA 0, 31, .inl (fun _ => 0))), (q9, .inl (cA 0, 62, .inl (fun _ => 0))), (q13, .inl (cA 1, 2, .inl (fun _ => 0)))] := hD
  refine W.widen (k := 3) (n := 95) (Nat.le_of_ble_eq_true rfl) (Nat.le_of_ble_eq_true rfl) ?_
  refine va_putF (D := D) (ci := 5) (v := .ref q13) (ty := .array .boolean) (C := RX5) (T := TX5) (N := 13) hx hb hg inG5 tyX5 tyX5_ok nmX5 hown hK hP hD hS 0 rfl rfl 2 (by decide) (hg _ v_42) (fun _ h9 => h9) rfl hin rfl (by decide +kernel) rfl rfl (Nat.le_of_ble_eq_true rfl) dX5_init_24 (fun H locs hP hD hS => ?_)
  have hP : va_P D vwCl [(h0, .inr (5, [.ref q5, .ref q9, .ref q13, .null, .int 0, .null, .int 0, .null, .null, .null, .null, .int 0, .int 0])), (q5, .inl (cA 0, 31, .inl (fun _ => 0))), (q9, .inl (cA 0, 62, .inl (fun _ => 0))), (q13, .inl (cA 1, 2, .inl (fun _ => 0)))] H := hP
  have hD : va_D A [(h0, .inr (5, [.ref q5, .ref q9, .ref q13, .null, .int 0, .null, .int 0, .null, .null, .null, .null, .int 0, .int 0])), (q5, .inl (cA 0, 31, .inl (fun _ => 0))), (q9, .inl (cA 0, 62, .inl (fun _ => 0))), (q13, .inl (cA 1, 2, .inl (fun _ => 0)))] := hD
  refine lv_aload_n hx hb dX5_init_27 rfl (lv_at hl 0 rfl) ?_
  refine lv_bipush (v := 14) hx hb dX5_init_28 (by decide +kernel) ?_
  refine c_newI (cA := cA) (N' := 14) hx hb hg hK hP hD hS hA v_6 (by decide) (by decide +kernel) (Nat.le_of_ble_eq_true rfl) (Nat.le_of_ble_eq_true rfl) (Nat.le_of_ble_eq_true rfl) dX5_init_30 (fun q17 H hP hD hS => ?_)
  have hP : va_P D vwCl [(h0, .inr (5, [.ref q5, .ref q9, .ref q13, .null, .int 0, .null, .int 0, .null, .null, .null, .null, .int 0, .int 0])), (q5, .inl (cA 0, 31, .inl (fun _ => 0))), (q9, .inl (cA 0, 62, .inl (fun _ => 0))), (q13, .inl (cA 1, 2, .inl (fun _ => 0))), (q17, .inl (cA 0, 14, .inl (fun _ => 0)))] H := hP
  have hD : va_D A [(h0, .inr (5, [.ref q5, .ref q9, .ref q13, .null, .int 0, .null, .int 0, .null, .null, .null, .null, .int 0, .int 0])), (q5, .inl (cA 0, 31, .inl (fun _ => 0))), (q9, .inl (cA 0, 62, .inl (fun _ => 0))), (q13, .inl (cA 1, 2, .inl (fun _ => 0))), (q17, .inl (cA 0, 14, .inl (fun _ => 0)))] := hD
  refine W.widen (k := 4) (n := 109) (Nat.le_of_ble_eq_true rfl) (Nat.le_of_ble_eq_true rfl) ?_
  refine va_putF (D := D) (ci := 5) (v := .ref q17) (ty := .array .int) (C := RX5) (T := TX5) (N := 13) hx hb hg inG5 tyX5 tyX5_ok nmX5 hown hK hP hD hS 0 rfl rfl 3 (by decide) (hg _ v_43) (fun _ h9 => h9) rfl hin rfl (by decide +kernel) rfl rfl (Nat.le_of_ble_eq_true rfl) dX5_init_32 (fun H locs hP hD hS => ?_)
  have hP : va_P D vwCl [(h0, .inr (5, [.ref q5, .ref q9, .ref q13, .ref q17, .int 0, .null, .int 0, .null, .null, .null, .null, .int 0, .int 0])), (q5, .inl (cA 0, 31, .inl (fun _ => 0))), (q9, .inl (cA 0, 62, .inl (fun _ => 0))), (q13, .inl (cA 1, 2, .inl (fun _ => 0))), (q17, .inl (cA 0, 14, .inl (fun _ => 0)))] H := hP
  have hD : va_D A [(h0, .inr (5, [.ref q5, .ref q9, .ref q13, .ref q17, .int 0, .null, .int 0, .null, .null, .null, .null, .int 0, .int 0])), (q5, .inl (cA 0, 31, .inl (fun _ => 0))), (q9, .inl (cA 0, 62, .inl (fun _ => 0))), (q13, .inl (cA 1, 2, .inl (fun _ => 0))), (q17, .inl (cA 0, 14, .inl (fun _ => 0)))] := hD
  refine lv_aload_n hx hb dX5_init_35 rfl (lv_at hl 0 rfl) ?_
  refine lv_bipush (v := 15) hx hb dX5_init_36 (by decide +kernel) ?_
  refine c_newI (cA := cA) (N' := 15) hx hb hg hK hP hD hS hA v_6 (by decide) (by decide +kernel) (Nat.le_of_ble_eq_true rfl) (Nat.le_of_ble_eq_true rfl) (Nat.le_of_ble_eq_true rfl) dX5_init_38 (fun q21 H hP hD hS => ?_)
  have hP : va_P D vwCl [(h0, .inr (5, [.ref q5, .ref q9, .ref q13, .ref q17, .int 0, .null, .int 0, .null, .null, .null, .null, .int 0, .int 0])), (q5, .inl (cA 0, 31, .inl (fun _ => 0))), (q9, .inl (cA 0, 62, .inl (fun _ => 0))), (q13, .inl (cA 1, 2, .inl (fun _ => 0))), (q17, .inl (cA 0, 14, .inl (fun _ => 0))), (q21, .inl (cA 0, 15, .inl (fun _ => 0)))] H := hP
  have hD : va_D A [(h0, .inr (5, [.ref q5, .ref q9, .ref q13, .ref q17, .int 0, .null, .int 0, .null, .null, .null, .null, .int 0, .int 0])), (q5, .inl (cA 0, 31, .inl (fun _ => 0))), (q9, .inl (cA 0, 62, .inl (fun _ => 0))), (q13, .inl (cA 1, 2, .inl (fun _ => 0))), (q17, .inl (cA 0, 14, .inl (fun _ => 0))), (q21, .inl (cA 0, 15, .inl (fun _ => 0)))] := hD
  refine W.widen (k := 5) (n := 124) (Nat.le_of_ble_eq_true rfl) (Nat.le_of_ble_eq_true rfl) ?_
  refine va_putF (D := D) (ci := 5) (v := .ref q21) (ty := .array .int) (C := RX5) (T := TX5) (N := 13) hx hb hg inG5 tyX5 tyX5_ok nmX5 hown hK hP hD hS 0 rfl rfl 5 (by decide) (hg _ v_44) (fun _ h9 => h9) rfl hin rfl (by decide +kernel) rfl rfl (Nat.le_of_ble_eq_true rfl) dX5_init_40 (fun H locs hP hD hS => ?_)
  have hP : va_P D vwCl [(h0, .inr (5, [.ref q5, .ref q9, .ref q13, .ref q17, .int 0, .ref q21, .int 0, .null, .null, .null, .null, .int 0, .int 0])), (q5, .inl (cA 0, 31, .inl (fun _ => 0))), (q9, .inl (cA 0, 62, .inl (fun _ => 0))), (q13, .inl (cA 1, 2, .inl (fun _ => 0))), (q17, .inl (cA 0, 14, .inl (fun _ => 0))), (q21, .inl (cA 0, 15, .inl (fun _ => 0)))] H := hP
  have hD : va_D A [(h0, .inr (5, [.ref q5, .ref q9, .ref q13, .ref q17, .int 0, .ref q21, .int 0, .null, .null, .null, .null, .int 0, .int 0])), (q5, .inl (cA 0, 31, .inl (fun _ => 0))), (q9, .inl (cA 0, 62, .inl (fun _ => 0))), (q13, .inl (cA 1, 2, .inl (fun _ => 0))), (q17, .inl (cA 0, 14, .inl (fun _ => 0))), (q21, .inl (cA 0, 15, .inl (fun _ => 0)))] := hD
  refine lv_aload_n hx hb dX5_init_43 rfl (lv_at hl 0 rfl) ?_
  refine lv_bipush (v := 15) hx hb dX5_init_44 (by decide +kernel) ?_
  refine c_newI (cA := cA) (N' := 15) hx hb hg hK hP hD hS hA v_6 (by decide) (by decide +kernel) (Nat.le_of_ble_eq_true rfl) (Nat.le_of_ble_eq_true rfl) (Nat.le_of_ble_eq_true rfl) dX5_init_46 (fun q25 H hP hD hS => ?_)
  have hP : va_P D vwCl [(h0, .inr (5, [.ref q5, .ref q9, .ref q13, .ref q17, .int 0, .ref q21, .int 0, .null, .null, .null, .null, .int 0, .int 0])), (q5, .inl (cA 0, 31, .inl (fun _ => 0))), (q9, .inl (cA 0, 62, .inl (fun _ => 0))), (q13, .inl (cA 1, 2, .inl (fun _ => 0))), (q17, .inl (cA 0, 14, .inl (fun _ => 0))), (q21, .inl (cA 0, 15, .inl (fun _ => 0))), (q25, .inl (cA 0, 15, .inl (fun _ => 0)))] H := hP
  have hD : va_D A [(h0, .inr (5, [.ref q5, .ref q9, .ref q13, .ref q17, .int 0, .ref q21, .int 0, .null, .null, .null, .null, .int 0, .int 0])), (q5, .inl (cA 0, 31, .inl (fun _ => 0))), (q9, .inl (cA 0, 62, .inl (fun _ => 0))), (q13, .inl (cA 1, 2, .inl (fun _ => 0))), (q17, .inl (cA 0, 14, .inl (fun _ => 0))), (q21, .inl (cA 0, 15, .inl (fun _ => 0))), (q25, .inl (cA 0, 15, .inl (fun _ => 0)))] := hD
  refine W.widen (k := 6) (n := 139) (Nat.le_of_ble_eq_true rfl) (Nat.le_of_ble_eq_true rfl) ?_
  refine va_putF (D := D) (ci := 5) (v := .ref q25) (ty := .array .int) (C := RX5) (T := TX5) (N := 13) hx hb hg inG5 tyX5 tyX5_ok nmX5 hown hK hP hD hS 0 rfl rfl 7 (by decide) (hg _ v_45) (fun _ h9 => h9) rfl hin rfl (by decide +kernel) rfl rfl (Nat.le_of_ble_eq_true rfl) dX5_init_48 (fun H locs hP hD hS => ?_)
  have hP : va_P D vwCl [(h0, .inr (5, [.ref q5, .ref q9, .ref q13, .ref q17, .int 0, .ref q21, .int 0, .ref q25, .null, .null, .null, .int 0, .int 0])), (q5, .inl (cA 0, 31, .inl (fun _ => 0))), (q9, .inl (cA 0, 62, .inl (fun _ => 0))), (q13, .inl (cA 1, 2, .inl (fun _ => 0))), (q17, .inl (cA 0, 14, .inl (fun _ => 0))), (q21, .inl (cA 0, 15, .inl (fun _ => 0))), (q25, .inl (cA 0, 15, .inl (fun _ => 0)))] H := hP
  have hD : va_D A [(h0, .inr (5, [.ref q5, .ref q9, .ref q13, .ref q17, .int 0, .ref q21, .int 0, .ref q25, .null, .null, .null, .int 0, .int 0])), (q5, .inl (cA 0, 31, .inl (fun _ => 0))), (q9, .inl (cA 0, 62, .inl (fun _ => 0))), (q13, .inl (cA 1, 2, .inl (fun _ => 0))), (q17, .inl (cA 0, 14, .inl (fun _ => 0))), (q21, .inl (cA 0, 15, .inl (fun _ => 0))), (q25, .inl (cA 0, 15, .inl (fun _ => 0)))] := hD
  refine lv_aload_n hx hb dX5_init_51 rfl (lv_at hl 0 rfl) ?_
  refine lv_sipush (v := 128) hx hb dX5_init_52 (by decide +kernel) ?_
  refine c_newI (cA := cA) (N' := 128) hx hb hg hK hP hD hS hA v_6 (by decide) (by decide +kernel) (Nat.le_of_ble_eq_true rfl) (Nat.le_of_ble_eq_true rfl) (Nat.le_of_ble_eq_true rfl) dX5_init_55 (fun q29 H hP hD hS => ?_)
  have hP : va_P D vwCl [(h0, .inr (5, [.ref q5, .ref q9, .ref q13, .ref q17, .int 0, .ref q21, .int 0, .ref q25, .null, .null, .null, .int 0, .int 0])), (q5, .inl (cA 0, 31, .inl (fun _ => 0))), (q9, .inl (cA 0, 62, .inl (fun _ => 0))), (q13, .inl (cA 1, 2, .inl (fun _ => 0))), (q17, .inl (cA 0, 14, .inl (fun _ => 0))), (q21, .inl (cA 0, 15, .inl (fun _ => 0))), (q25, .inl (cA 0, 15, .inl (fun _ => 0))), (q29, .inl (cA 0, 128, .inl (fun _ => 0)))] H := hP
  have hD : va_D A [(h0, .inr (5, [.ref q5, .ref q9, .ref q13, .ref q17, .int 0, .ref q21, .int 0, .ref q25, .null, .null, .null, .int 0, .int 0])), (q5, .inl (cA 0, 31, .inl (fun _ => 0))), (q9, .inl (cA 0, 62, .inl (fun _ => 0))), (q13, .inl (cA 1, 2, .inl (fun _ => 0))), (q17, .inl (cA 0, 14, .inl (fun _ => 0))), (q21, .inl (cA 0, 15, .inl (fun _ => 0))), (q25, .inl (cA 0, 15, .inl (fun _ => 0))), (q29, .inl (cA 0, 128, .inl (fun _ => 0)))] := hD
  refine W.widen (k := 7) (n := 267) (Nat.le_of_ble_eq_true rfl) (Nat.le_of_ble_eq_true rfl) ?_
  refine va_putF (D := D) (ci := 5) (v := .ref q29) (ty := .array .int) (C := RX5) (T := TX5) (N := 13) hx hb hg inG5 tyX5 tyX5_ok nmX5 hown hK hP hD hS 0 rfl rfl 8 (by decide) (hg _ v_46) (fun _ h9 => h9) rfl hin rfl (by decide +kernel) rfl rfl (Nat.le_of_ble_eq_true rfl) dX5_init_57 (fun H locs hP hD hS => ?_)
  have hP : va_P D vwCl [(h0, .inr (5, [.ref q5, .ref q9, .ref q13, .ref q17, .int 0, .ref q21, .int 0, .ref q25, .ref q29, .null, .null, .int 0, .int 0])), (q5, .inl (cA 0, 31, .inl (fun _ => 0))), (q9, .inl (cA 0, 62, .inl (fun _ => 0))), (q13, .inl (cA 1, 2, .inl (fun _ => 0))), (q17, .inl (cA 0, 14, .inl (fun _ => 0))), (q21, .inl (cA 0, 15, .inl (fun _ => 0))), (q25, .inl (cA 0, 15, .inl (fun _ => 0))), (q29, .inl (cA 0, 128, .inl (fun _ => 0)))] H := hP
  have hD : va_D A [(h0, .inr (5, [.ref q5, .ref q9, .ref q13, .ref q17, .int 0, .ref q21, .int 0, .ref q25, .ref q29, .null, .null, .int 0, .int 0])), (q5, .inl (cA 0, 31, .inl (fun _ => 0))), (q9, .inl (cA 0, 62, .inl (fun _ => 0))), (q13, .inl (cA 1, 2, .inl (fun _ => 0))), (q17, .inl (cA 0, 14, .inl (fun _ => 0))), (q21, .inl (cA 0, 15, .inl (fun _ => 0))), (q25, .inl (cA 0, 15, .inl (fun _ => 0))), (q29, .inl (cA 0, 128, .inl (fun _ => 0)))] := hD
  refine lv_aload_n hx hb dX5_init_60 rfl (lv_at hl 0 rfl) ?_
  refine lv_ldc (v := 168960) hx hb hown (hg _ v_47) dX5_init_61 ?_
  refine c_newZ (cA := cA) (N' := 168960) hx hb hg hK hP hD hS hA v_41 (by decide) (by decide +kernel) (Nat.le_of_ble_eq_true rfl) (Nat.le_of_ble_eq_true rfl) (Nat.le_of_ble_eq_true rfl) dX5_init_63 (fun q33 H hP hD hS => ?_)
  have hP : va_P D vwCl [(h0, .inr (5, [.ref q5, .ref q9, .ref q13, .ref q17, .int 0, .ref q21, .int 0, .ref q25, .ref q29, .null, .null, .int 0, .int 0])), (q5, .inl (cA 0, 31, .inl (fun _ => 0))), (q9, .inl (cA 0, 62, .inl (fun _ => 0))), (q13, .inl (cA 1, 2, .inl (fun _ => 0))), (q17, .inl (cA 0, 14, .inl (fun _ => 0))), (q21, .inl (cA 0, 15, .inl (fun _ => 0))), (q25, .inl (cA 0, 15, .inl (fun _ => 0))), (q29, .inl (cA 0, 128, .inl (fun _ => 0))), (q33, .inl (cA 1, 168960, .inl (fun _ => 0)))] H := hP
  have hD : va_D A [(h0, .inr (5, [.ref q5, .ref q9, .ref q13, .ref q17, .int 0, .ref q21, .int 0, .ref q25, .ref q29, .null, .null, .int 0, .int 0])), (q5, .inl (cA 0, 31, .inl (fun _ => 0))), (q9, .inl (cA 0, 62, .inl (fun _ => 0))), (q13, .inl (cA 1, 2, .inl (fun _ => 0))), (q17, .inl (cA 0, 14, .inl (fun _ => 0))), (q21, .inl (cA 0, 15, .inl (fun _ => 0))), (q25, .inl (cA 0, 15, .inl (fun _ => 0))), (q29, .inl (cA 0, 128, .inl (fun _ => 0))), (q33, .inl (cA 1, 168960, .inl (fun _ => 0)))] := hD
  refine W.widen (k := 8) (n := 169227) (Nat.le_of_ble_eq_true rfl) (Nat.le_of_ble_eq_true rfl) ?_
  refine va_putF (D := D) (ci := 5) (v := .ref q33) (ty := .array .boolean) (C := RX5) (T := TX5) (N := 13) hx hb hg inG5 tyX5 tyX5_ok nmX5 hown hK hP hD hS 0 rfl rfl 9 (by decide) (hg _ v_48) (fun _ h9 => h9) rfl hin rfl (by decide +kernel) rfl rfl (Nat.le_of_ble_eq_true rfl) dX5_init_65 (fun H locs hP hD hS => ?_)
  have hP : va_P D vwCl [(h0, .inr (5, [.ref q5, .ref q9, .ref q13, .ref q17, .int 0, .ref q21, .int 0, .ref q25, .ref q29, .ref q33, .null, .int 0, .int 0])), (q5, .inl (cA 0, 31, .inl (fun _ => 0))), (q9, .inl (cA 0, 62, .inl (fun _ => 0))), (q13, .inl (cA 1, 2, .inl (fun _ => 0))), (q17, .inl (cA 0, 14, .inl (fun _ => 0))), (q21, .inl (cA 0, 15, .inl (fun _ => 0))), (q25, .inl (cA 0, 15, .inl (fun _ => 0))), (q29, .inl (cA 0, 128, .inl (fun _ => 0))), (q33, .inl (cA 1, 168960, .inl (fun _ => 0)))] H := hP
  have hD : va_D A [(h0, .inr (5, [.ref q5, .ref q9, .ref q13, .ref q17, .int 0, .ref q21, .int 0, .ref q25, .ref q29, .ref q33, .null, .int 0, .int 0])), (q5, .inl (cA 0, 31, .inl (fun _ => 0))), (q9, .inl (cA 0, 62, .inl (fun _ => 0))), (q13, .inl (cA 1, 2, .inl (fun _ => 0))), (q17, .inl (cA 0, 14, .inl (fun _ => 0))), (q21, .inl (cA 0, 15, .inl (fun _ => 0))), (q25, .inl (cA 0, 15, .inl (fun _ => 0))), (q29, .inl (cA 0, 128, .inl (fun _ => 0))), (q33, .inl (cA 1, 168960, .inl (fun _ => 0)))] := hD
  refine lv_aload_n hx hb dX5_init_68 rfl (lv_at hl 0 rfl) ?_
  refine lv_ldc (v := 168960) hx hb hown (hg _ v_47) dX5_init_69 ?_
  refine c_newI (cA := cA) (N' := 168960) hx hb hg hK hP hD hS hA v_6 (by decide) (by decide +kernel) (Nat.le_of_ble_eq_true rfl) (Nat.le_of_ble_eq_true rfl) (Nat.le_of_ble_eq_true rfl) dX5_init_71 (fun q37 H hP hD hS => ?_)
  have hP : va_P D vwCl [(h0, .inr (5, [.ref q5, .ref q9, .ref q13, .ref q17, .int 0, .ref q21, .int 0, .ref q25, .ref q29, .ref q33, .null, .int 0, .int 0])), (q5, .inl (cA 0, 31, .inl (fun _ => 0))), (q9, .inl (cA 0, 62, .inl (fun _ => 0))), (q13, .inl (cA 1, 2, .inl (fun _ => 0))), (q17, .inl (cA 0, 14, .inl (fun _ => 0))), (q21, .inl (cA 0, 15, .inl (fun _ => 0))), (q25, .inl (cA 0, 15, .inl (fun _ => 0))), (q29, .inl (cA 0, 128, .inl (fun _ => 0))), (q33, .inl (cA 1, 168960, .inl (fun _ => 0))), (q37, .inl (cA 0, 168960, .inl (fun _ => 0)))] H := hP
  have hD : va_D A [(h0, .inr (5, [.ref q5, .ref q9, .ref q13, .ref q17, .int 0, .ref q21, .int 0, .ref q25, .ref q29, .ref q33, .null, .int 0, .int 0])), (q5, .inl (cA 0, 31, .inl (fun _ => 0))), (q9, .inl (cA 0, 62, .inl (fun _ => 0))), (q13, .inl (cA 1, 2, .inl (fun _ => 0))), (q17, .inl (cA 0, 14, .inl (fun _ => 0))), (q21, .inl (cA 0, 15, .inl (fun _ => 0))), (q25, .inl (cA 0, 15, .inl (fun _ => 0))), (q29, .inl (cA 0, 128, .inl (fun _ => 0))), (q33, .inl (cA 1, 168960, .inl (fun _ => 0))), (q37, .inl (cA 0, 168960, .inl (fun _ => 0)))] := hD
  refine W.widen (k := 9) (n := 338187) (Nat.le_of_ble_eq_true rfl) (Nat.le_of_ble_eq_true rfl) ?_
  refine va_putF (D := D) (ci := 5) (v := .ref q37) (ty := .array .int) (C := RX5) (T := TX5) (N := 13) hx hb hg inG5 tyX5 tyX5_ok nmX5 hown hK hP hD hS 0 rfl rfl 10 (by decide) (hg _ v_49) (fun _ h9 => h9) rfl hin rfl (by decide +kernel) rfl rfl (Nat.le_of_ble_eq_true rfl) dX5_init_73 (fun H locs hP hD hS => ?_)
  have hP : va_P D vwCl [(h0, .inr (5, [.ref q5, .ref q9, .ref q13, .ref q17, .int 0, .ref q21, .int 0, .ref q25, .ref q29, .ref q33, .ref q37, .int 0, .int 0])), (q5, .inl (cA 0, 31, .inl (fun _ => 0))), (q9, .inl (cA 0, 62, .inl (fun _ => 0))), (q13, .inl (cA 1, 2, .inl (fun _ => 0))), (q17, .inl (cA 0, 14, .inl (fun _ => 0))), (q21, .inl (cA 0, 15, .inl (fun _ => 0))), (q25, .inl (cA 0, 15, .inl (fun _ => 0))), (q29, .inl (cA 0, 128, .inl (fun _ => 0))), (q33, .inl (cA 1, 168960, .inl (fun _ => 0))), (q37, .inl (cA 0, 168960, .inl (fun _ => 0)))] H := hP
  have hD : va_D A [(h0, .inr (5, [.ref q5, .ref q9, .ref q13, .ref q17, .int 0, .ref q21, .int 0, .ref q25, .ref q29, .ref q33, .ref q37, .int 0, .int 0])), (q5, .inl (cA 0, 31, .inl (fun _ => 0))), (q9, .inl (cA 0, 62, .inl (fun _ => 0))), (q13, .inl (cA 1, 2, .inl (fun _ => 0))), (q17, .inl (cA 0, 14, .inl (fun _ => 0))), (q21, .inl (cA 0, 15, .inl (fun _ => 0))), (q25, .inl (cA 0, 15, .inl (fun _ => 0))), (q29, .inl (cA 0, 128, .inl (fun _ => 0))), (q33, .inl (cA 1, 168960, .inl (fun _ => 0))), (q37, .inl (cA 0, 168960, .inl (fun _ => 0)))] := hD
  refine lv_iconst (v := 0) hx hb dX5_init_76 (by decide) ?_
  refine lv_istore_n (lv' := [(1, .int 0), (0, .ref h0)]) hx hb dX5_init_77 rfl hl (by decide) rfl (fun ls hl => ?_)
  refine lv_iload_n hx hb dX5_init_78 rfl (lv_at hl 0 rfl) ?_
  refine lv_iconst (v := 3) hx hb dX5_init_79 (by decide) ?_
  refine lv_icmp_ge (tgt := 111) hx hb dX5_init_80 (by decide) (fun c_ => absurd c_ (by decide)) (fun _ => ?_)
  refine lv_aload_n hx hb dX5_init_83 rfl (lv_at hl 1 rfl) ?_
  refine va_get (D := D) (ci := 5) (v := .ref q5) (C := RX5) (T := TX5) (N := 13) hx hb hg inG5 hown hK hP 0 rfl rfl 0 (by decide) (hg _ v_39) (fun _ h9 => h9) rfl dX5_init_84 ?_
  refine lv_iconst (v := 0) hx hb dX5_init_87 (by decide) ?_
  refine lv_iload_n hx hb dX5_init_88 rfl (lv_at hl 0 rfl) ?_
  refine lv_iadd hx hb dX5_init_89 ?_
  refine W.eq (g2 := F0 m 90 ls (.int 0 :: .ref q5 :: [])) rfl ?_
  refine lv_iconst (v := 3) hx hb dX5_init_90 (by decide) ?_
  refine lv_iload_n hx hb dX5_init_91 rfl (lv_at hl 0 rfl) ?_
  refine lv_imul hx hb dX5_init_92 ?_
  refine W.eq (g2 := F0 m 93 ls (.int 0 :: .int 0 :: .ref q5 :: [])) rfl ?_
  refine lv_iconst (v := 3) hx hb dX5_init_93 (by decide) ?_
  refine lv_iadd hx hb dX5_init_94 ?_
  refine W.eq (g2 := F0 m 95 ls (.int 3 :: .int 0 :: .ref q5 :: [])) rfl ?_
  refine va_iast hx hb hK hP hD hS 1 0 rfl rfl (by unfold vp_in; decide +kernel) dX5_init_95 (fun H locs hP hD hS => ?_)
  have hP : va_P D vwCl [(h0, .inr (5, [.ref q5, .ref q9, .ref q13, .ref q17, .int 0, .ref q21, .int 0, .ref q25, .ref q29, .ref q33, .ref q37, .int 0, .int 0])), (q5, .inl (cA 0, 31, .inl (upd (fun _ => 0) (0 : Int32).toNatClampNeg (3)))), (q9, .inl (cA 0, 62, .inl (fun _ => 0))), (q13, .inl (cA 1, 2, .inl (fun _ => 0))), (q17, .inl (cA 0, 14, .inl (fun _ => 0))), (q21, .inl (cA 0, 15, .inl (fun _ => 0))), (q25, .inl (cA 0, 15, .inl (fun _ => 0))), (q29, .inl (cA 0, 128, .inl (fun _ => 0))), (q33, .inl (cA 1, 168960, .inl (fun _ => 0))), (q37, .inl (cA 0, 168960, .inl (fun _ => 0)))] H := hP
  have hD : va_D A [(h0, .inr (5, [.ref q5, .ref q9, .ref q13, .ref q17, .int 0, .ref q21, .int 0, .ref q25, .ref q29, .ref q33, .ref q37, .int 0, .int 0])), (q5, .inl (cA 0, 31, .inl (upd (fun _ => 0) (0 : Int32).toNatClampNeg (3)))), (q9, .inl (cA 0, 62, .inl (fun _ => 0))), (q13, .inl (cA 1, 2, .inl (fun _ => 0))), (q17, .inl (cA 0, 14, .inl (fun _ => 0))), (q21, .inl (cA 0, 15, .inl (fun _ => 0))), (q25, .inl (cA 0, 15, .inl (fun _ => 0))), (q29, .inl (cA 0, 128, .inl (fun _ => 0))), (q33, .inl (cA 1, 168960, .inl (fun _ => 0))), (q37, .inl (cA 0, 168960, .inl (fun _ => 0)))] := hD
  refine lv_aload_n hx hb dX5_init_96 rfl (lv_at hl 1 rfl) ?_
  refine va_get (D := D) (ci := 5) (v := .ref q5) (C := RX5) (T := TX5) (N := 13) hx hb hg inG5 hown hK hP 0 rfl rfl 0 (by decide) (hg _ v_39) (fun _ h9 => h9) rfl dX5_init_97 ?_
  refine lv_iconst (v := 3) hx hb dX5_init_100 (by decide) ?_
  refine lv_iload_n hx hb dX5_init_101 rfl (lv_at hl 0 rfl) ?_
  refine lv_iadd hx hb dX5_init_102 ?_
  refine W.eq (g2 := F0 m 103 ls (.int 3 :: .ref q5 :: [])) rfl ?_
  refine lv_iconst (v := 5) hx hb dX5_init_103 (by decide) ?_
  refine va_iast hx hb hK hP hD hS 1 0 rfl rfl (by unfold vp_in; decide +kernel) dX5_init_104 (fun H locs hP hD hS => ?_)
  have hP : va_P D vwCl [(h0, .inr (5, [.ref q5, .ref q9, .ref q13, .ref q17, .int 0, .ref q21, .int 0, .ref q25, .ref q29, .ref q33, .ref q37, .int 0, .int 0])), (q5, .inl (cA 0, 31, .inl (upd (upd (fun _ => 0) (0 : Int32).toNatClampNeg (3)) (3 : Int32).toNatClampNeg (5)))), (q9, .inl (cA 0, 62, .inl (fun _ => 0))), (q13, .inl (cA 1, 2, .inl (fun _ => 0))), (q17, .inl (cA 0, 14, .inl (fun _ => 0))), (q21, .inl (cA 0, 15, .inl (fun _ => 0))), (q25, .inl (cA 0, 15, .inl (fun _ => 0))), (q29, .inl (cA 0, 128, .inl (fun _ => 0))), (q33, .inl (cA 1, 168960, .inl (fun _ => 0))), (q37, .inl (cA 0, 168960, .inl (fun _ => 0)))] H := hP
  have hD : va_D A [(h0, .inr (5, [.ref q5, .ref q9, .ref q13, .ref q17, .int 0, .ref q21, .int 0, .ref q25, .ref q29, .ref q33, .ref q37, .int 0, .int 0])), (q5, .inl (cA 0, 31, .inl (upd (upd (fun _ => 0) (0 : Int32).toNatClampNeg (3)) (3 : Int32).toNatClampNeg (5)))), (q9, .inl (cA 0, 62, .inl (fun _ => 0))), (q13, .inl (cA 1, 2, .inl (fun _ => 0))), (q17, .inl (cA 0, 14, .inl (fun _ => 0))), (q21, .inl (cA 0, 15, .inl (fun _ => 0))), (q25, .inl (cA 0, 15, .inl (fun _ => 0))), (q29, .inl (cA 0, 128, .inl (fun _ => 0))), (q33, .inl (cA 1, 168960, .inl (fun _ => 0))), (q37, .inl (cA 0, 168960, .inl (fun _ => 0)))] := hD
  refine lv_iinc (v := 1) (lv' := [(1, .int 1), (0, .ref h0)]) hx hb dX5_init_105 hl (k := 0) rfl (by decide) (by decide) rfl (fun ls hl => ?_)
  refine lv_goto (tgt := 78) hx hb dX5_init_108 (by decide) ?_
  refine lv_iload_n hx hb dX5_init_78 rfl (lv_at hl 0 rfl) ?_
  refine lv_iconst (v := 3) hx hb dX5_init_79 (by decide) ?_
  refine lv_icmp_ge (tgt := 111) hx hb dX5_init_80 (by decide) (fun c_ => absurd c_ (by decide)) (fun _ => ?_)
  refine lv_aload_n hx hb dX5_init_83 rfl (lv_at hl 1 rfl) ?_
  refine va_get (D := D) (ci := 5) (v := .ref q5) (C := RX5) (T := TX5) (N := 13) hx hb hg inG5 hown hK hP 0 rfl rfl 0 (by decide) (hg _ v_39) (fun _ h9 => h9) rfl dX5_init_84 ?_
  refine lv_iconst (v := 0) hx hb dX5_init_87 (by decide) ?_
  refine lv_iload_n hx hb dX5_init_88 rfl (lv_at hl 0 rfl) ?_
  refine lv_iadd hx hb dX5_init_89 ?_
  refine W.eq (g2 := F0 m 90 ls (.int 1 :: .ref q5 :: [])) rfl ?_
  refine lv_iconst (v := 3) hx hb dX5_init_90 (by decide) ?_
  refine lv_iload_n hx hb dX5_init_91 rfl (lv_at hl 0 rfl) ?_
  refine lv_imul hx hb dX5_init_92 ?_
  refine W.eq (g2 := F0 m 93 ls (.int 3 :: .int 1 :: .ref q5 :: [])) rfl ?_
  refine lv_iconst (v := 3) hx hb dX5_init_93 (by decide) ?_
  refine lv_iadd hx hb dX5_init_94 ?_
  refine W.eq (g2 := F0 m 95 ls (.int 6 :: .int 1 :: .ref q5 :: [])) rfl ?_
  refine va_iast hx hb hK hP hD hS 1 0 rfl rfl (by unfold vp_in; decide +kernel) dX5_init_95 (fun H locs hP hD hS => ?_)
  have hP : va_P D vwCl [(h0, .inr (5, [.ref q5, .ref q9, .ref q13, .ref q17, .int 0, .ref q21, .int 0, .ref q25, .ref q29, .ref q33, .ref q37, .int 0, .int 0])), (q5, .inl (cA 0, 31, .inl (upd (upd (upd (fun _ => 0) (0 : Int32).toNatClampNeg (3)) (3 : Int32).toNatClampNeg (5)) (1 : Int32).toNatClampNeg (6)))), (q9, .inl (cA 0, 62, .inl (fun _ => 0))), (q13, .inl (cA 1, 2, .inl (fun _ => 0))), (q17, .inl (cA 0, 14, .inl (fun _ => 0))), (q21, .inl (cA 0, 15, .inl (fun _ => 0))), (q25, .inl (cA 0, 15, .inl (fun _ => 0))), (q29, .inl (cA 0, 128, .inl (fun _ => 0))), (q33, .inl (cA 1, 168960, .inl (fun _ => 0))), (q37, .inl (cA 0, 168960, .inl (fun _ => 0)))] H := hP
  have hD : va_D A [(h0, .inr (5, [.ref q5, .ref q9, .ref q13, .ref q17, .int 0, .ref q21, .int 0, .ref q25, .ref q29, .ref q33, .ref q37, .int 0, .int 0])), (q5, .inl (cA 0, 31, .inl (upd (upd (upd (fun _ => 0) (0 : Int32).toNatClampNeg (3)) (3 : Int32).toNatClampNeg (5)) (1 : Int32).toNatClampNeg (6)))), (q9, .inl (cA 0, 62, .inl (fun _ => 0))), (q13, .inl (cA 1, 2, .inl (fun _ => 0))), (q17, .inl (cA 0, 14, .inl (fun _ => 0))), (q21, .inl (cA 0, 15, .inl (fun _ => 0))), (q25, .inl (cA 0, 15, .inl (fun _ => 0))), (q29, .inl (cA 0, 128, .inl (fun _ => 0))), (q33, .inl (cA 1, 168960, .inl (fun _ => 0))), (q37, .inl (cA 0, 168960, .inl (fun _ => 0)))] := hD
  refine lv_aload_n hx hb dX5_init_96 rfl (lv_at hl 1 rfl) ?_
  refine va_get (D := D) (ci := 5) (v := .ref q5) (C := RX5) (T := TX5) (N := 13) hx hb hg inG5 hown hK hP 0 rfl rfl 0 (by decide) (hg _ v_39) (fun _ h9 => h9) rfl dX5_init_97 ?_
  refine lv_iconst (v := 3) hx hb dX5_init_100 (by decide) ?_
  refine lv_iload_n hx hb dX5_init_101 rfl (lv_at hl 0 rfl) ?_
  refine lv_iadd hx hb dX5_init_102 ?_
  refine W.eq (g2 := F0 m 103 ls (.int 4 :: .ref q5 :: [])) rfl ?_
  refine lv_iconst (v := 5) hx hb dX5_init_103 (by decide) ?_
  refine va_iast hx hb hK hP hD hS 1 0 rfl rfl (by unfold vp_in; decide +kernel) dX5_init_104 (fun H locs hP hD hS => ?_)
  have hP : va_P D vwCl [(h0, .inr (5, [.ref q5, .ref q9, .ref q13, .ref q17, .int 0, .ref q21, .int 0, .ref q25, .ref q29, .ref q33, .ref q37, .int 0, .int 0])), (q5, .inl (cA 0, 31, .inl (upd (upd (upd (upd (fun _ => 0) (0 : Int32).toNatClampNeg (3)) (3 : Int32).toNatClampNeg (5)) (1 : Int32).toNatClampNeg (6)) (4 : Int32).toNatClampNeg (5)))), (q9, .inl (cA 0, 62, .inl (fun _ => 0))), (q13, .inl (cA 1, 2, .inl (fun _ => 0))), (q17, .inl (cA 0, 14, .inl (fun _ => 0))), (q21, .inl (cA 0, 15, .inl (fun _ => 0))), (q25, .inl (cA 0, 15, .inl (fun _ => 0))), (q29, .inl (cA 0, 128, .inl (fun _ => 0))), (q33, .inl (cA 1, 168960, .inl (fun _ => 0))), (q37, .inl (cA 0, 168960, .inl (fun _ => 0)))] H := hP
  have hD : va_D A [(h0, .inr (5, [.ref q5, .ref q9, .ref q13, .ref q17, .int 0, .ref q21, .int 0, .ref q25, .ref q29, .ref q33, .ref q37, .int 0, .int 0])), (q5, .inl (cA 0, 31, .inl (upd (upd (upd (upd (fun _ => 0) (0 : Int32).toNatClampNeg (3)) (3 : Int32).toNatClampNeg (5)) (1 : Int32).toNatClampNeg (6)) (4 : Int32).toNatClampNeg (5)))), (q9, .inl (cA 0, 62, .inl (fun _ => 0))), (q13, .inl (cA 1, 2, .inl (fun _ => 0))), (q17, .inl (cA 0, 14, .inl (fun _ => 0))), (q21, .inl (cA 0, 15, .inl (fun _ => 0))), (q25, .inl (cA 0, 15, .inl (fun _ => 0))), (q29, .inl (cA 0, 128, .inl (fun _ => 0))), (q33, .inl (cA 1, 168960, .inl (fun _ => 0))), (q37, .inl (cA 0, 168960, .inl (fun _ => 0)))] := hD
  refine lv_iinc (v := 2) (lv' := [(1, .int 2), (0, .ref h0)]) hx hb dX5_init_105 hl (k := 0) rfl (by decide) (by decide) rfl (fun ls hl => ?_)
  refine lv_goto (tgt := 78) hx hb dX5_init_108 (by decide) ?_
  refine lv_iload_n hx hb dX5_init_78 rfl (lv_at hl 0 rfl) ?_
  refine lv_iconst (v := 3) hx hb dX5_init_79 (by decide) ?_
  refine lv_icmp_ge (tgt := 111) hx hb dX5_init_80 (by decide) (fun c_ => absurd c_ (by decide)) (fun _ => ?_)
  refine lv_aload_n hx hb dX5_init_83 rfl (lv_at hl 1 rfl) ?_
  refine va_get (D := D) (ci := 5) (v := .ref q5) (C := RX5) (T := TX5) (N := 13) hx hb hg inG5 hown hK hP 0 rfl rfl 0 (by decide) (hg _ v_39) (fun _ h9 => h9) rfl dX5_init_84 ?_
  refine lv_iconst (v := 0) hx hb dX5_init_87 (by decide) ?_
  refine lv_iload_n hx hb dX5_init_88 rfl (lv_at hl 0 rfl) ?_
  refine lv_iadd hx hb dX5_init_89 ?_
  refine W.eq (g2 := F0 m 90 ls (.int 2 :: .ref q5 :: [])) rfl ?_
  refine lv_iconst (v := 3) hx hb dX5_init_90 (by decide) ?_
  refine lv_iload_n hx hb dX5_init_91 rfl (lv_at hl 0 rfl) ?_
  refine lv_imul hx hb dX5_init_92 ?_
  refine W.eq (g2 := F0 m 93 ls (.int 6 :: .int 2 :: .ref q5 :: [])) rfl ?_
  refine lv_iconst (v := 3) hx hb dX5_init_93 (by decide) ?_
  refine lv_iadd hx hb dX5_init_94 ?_
  refine W.eq (g2 := F0 m 95 ls (.int 9 :: .int 2 :: .ref q5 :: [])) rfl ?_
  refine va_iast hx hb hK hP hD hS 1 0 rfl rfl (by unfold vp_in; decide +kernel) dX5_init_95 (fun H locs hP hD hS => ?_)
  have hP : va_P D vwCl [(h0, .inr (5, [.ref q5, .ref q9, .ref q13, .ref q17, .int 0, .ref q21, .int 0, .ref q25, .ref q29, .ref q33, .ref q37, .int 0, .int 0])), (q5, .inl (cA 0, 31, .inl (upd (upd (upd (upd (upd (fun _ => 0) (0 : Int32).toNatClampNeg (3)) (3 : Int32).toNatClampNeg (5)) (1 : Int32).toNatClampNeg (6)) (4 : Int32).toNatClampNeg (5)) (2 : Int32).toNatClampNeg (9)))), (q9, .inl (cA 0, 62, .inl (fun _ => 0))), (q13, .inl (cA 1, 2, .inl (fun _ => 0))), (q17, .inl (cA 0, 14, .inl (fun _ => 0))), (q21, .inl (cA 0, 15, .inl (fun _ => 0))), (q25, .inl (cA 0, 15, .inl (fun _ => 0))), (q29, .inl (cA 0, 128, .inl (fun _ => 0))), (q33, .inl (cA 1, 168960, .inl (fun _ => 0))), (q37, .inl (cA 0, 168960, .inl (fun _ => 0)))] H := hP
  have hD : va_D A [(h0, .inr (5, [.ref q5, .ref q9, .ref q13, .ref q17, .int 0, .ref q21, .int 0, .ref q25, .ref q29, .ref q33, .ref q37, .int 0, .int 0])), (q5, .inl (cA 0, 31, .inl (upd (upd (upd (upd (upd (fun _ => 0) (0 : Int32).toNatClampNeg (3)) (3 : Int32).toNatClampNeg (5)) (1 : Int32).toNatClampNeg (6)) (4 : Int32).toNatClampNeg (5)) (2 : Int32).toNatClampNeg (9)))), (q9, .inl (cA 0, 62, .inl (fun _ => 0))), (q13, .inl (cA 1, 2, .inl (fun _ => 0))), (q17, .inl (cA 0, 14, .inl (fun _ => 0))), (q21, .inl (cA 0, 15, .inl (fun _ => 0))), (q25, .inl (cA 0, 15, .inl (fun _ => 0))), (q29, .inl (cA 0, 128, .inl (fun _ => 0))), (q33, .inl (cA 1, 168960, .inl (fun _ => 0))), (q37, .inl (cA 0, 168960, .inl (fun _ => 0)))] := hD
  refine lv_aload_n hx hb dX5_init_96 rfl (lv_at hl 1 rfl) ?_
  refine va_get (D := D) (ci := 5) (v := .ref q5) (C := RX5) (T := TX5) (N := 13) hx hb hg inG5 hown hK hP 0 rfl rfl 0 (by decide) (hg _ v_39) (fun _ h9 => h9) rfl dX5_init_97 ?_
  refine lv_iconst (v := 3) hx hb dX5_init_100 (by decide) ?_
  refine lv_iload_n hx hb dX5_init_101 rfl (lv_at hl 0 rfl) ?_
  refine lv_iadd hx hb dX5_init_102 ?_
  refine W.eq (g2 := F0 m 103 ls (.int 5 :: .ref q5 :: [])) rfl ?_
  refine lv_iconst (v := 5) hx hb dX5_init_103 (by decide) ?_
  refine va_iast hx hb hK hP hD hS 1 0 rfl rfl (by unfold vp_in; decide +kernel) dX5_init_104 (fun H locs hP hD hS => ?_)
  have hP : va_P D vwCl [(h0, .inr (5, [.ref q5, .ref q9, .ref q13, .ref q17, .int 0, .ref q21, .int 0, .ref q25, .ref q29, .ref q33, .ref q37, .int 0, .int 0])), (q5, .inl (cA 0, 31, .inl (upd (upd (upd (upd (upd (upd (fun _ => 0) (0 : Int32).toNatClampNeg (3)) (3 : Int32).toNatClampNeg (5)) (1 : Int32).toNatClampNeg (6)) (4 : Int32).toNatClampNeg (5)) (2 : Int32).toNatClampNeg (9)) (5 : Int32).toNatClampNeg (5)))), (q9, .inl (cA 0, 62, .inl (fun _ => 0))), (q13, .inl (cA 1, 2, .inl (fun _ => 0))), (q17, .inl (cA 0, 14, .inl (fun _ => 0))), (q21, .inl (cA 0, 15, .inl (fun _ => 0))), (q25, .inl (cA 0, 15, .inl (fun _ => 0))), (q29, .inl (cA 0, 128, .inl (fun _ => 0))), (q33, .inl (cA 1, 168960, .inl (fun _ => 0))), (q37, .inl (cA 0, 168960, .inl (fun _ => 0)))] H := hP
  have hD : va_D A [(h0, .inr (5, [.ref q5, .ref q9, .ref q13, .ref q17, .int 0, .ref q21, .int 0, .ref q25, .ref q29, .ref q33, .ref q37, .int 0, .int 0])), (q5, .inl (cA 0, 31, .inl (upd (upd (upd (upd (upd (upd (fun _ => 0) (0 : Int32).toNatClampNeg (3)) (3 : Int32).toNatClampNeg (5)) (1 : Int32).toNatClampNeg (6)) (4 : Int32).toNatClampNeg (5)) (2 : Int32).toNatClampNeg (9)) (5 : Int32).toNatClampNeg (5)))), (q9, .inl (cA 0, 62, .inl (fun _ => 0))), (q13, .inl (cA 1, 2, .inl (fun _ => 0))), (q17, .inl (cA 0, 14, .inl (fun _ => 0))), (q21, .inl (cA 0, 15, .inl (fun _ => 0))), (q25, .inl (cA 0, 15, .inl (fun _ => 0))), (q29, .inl (cA 0, 128, .inl (fun _ => 0))), (q33, .inl (cA 1, 168960, .inl (fun _ => 0))), (q37, .inl (cA 0, 168960, .inl (fun _ => 0)))] := hD
  refine lv_iinc (v := 3) (lv' := [(1, .int 3), (0, .ref h0)]) hx hb dX5_init_105 hl (k := 0) rfl (by decide) (by decide) rfl (fun ls hl => ?_)
  refine lv_goto (tgt := 78) hx hb dX5_init_108 (by decide) ?_
  refine lv_iload_n hx hb dX5_init_78 rfl (lv_at hl 0 rfl) ?_
  refine lv_iconst (v := 3) hx hb dX5_init_79 (by decide) ?_
  refine lv_icmp_ge (tgt := 111) hx hb dX5_init_80 (by decide) (fun _ => ?_) (fun c_ => absurd (by decide) c_)
  refine lv_aload_n hx hb dX5_init_111 rfl (lv_at hl 1 rfl) ?_
  refine va_get (D := D) (ci := 5) (v := .ref q5) (C := RX5) (T := TX5) (N := 13) hx hb hg inG5 hown hK hP 0 rfl rfl 0 (by decide) (hg _ v_39) (fun _ h9 => h9) rfl dX5_init_112 ?_
  refine lv_bipush (v := 6) hx hb dX5_init_115 (by decide +kernel) ?_
  refine lv_bipush (v := 10) hx hb dX5_init_117 (by decide +kernel) ?_
  refine va_iast hx hb hK hP hD hS 1 0 rfl rfl (by unfold vp_in; decide +kernel) dX5_init_119 (fun H locs hP hD hS => ?_)
  have hP : va_P D vwCl [(h0, .inr (5, [.ref q5, .ref q9, .ref q13, .ref q17, .int 0, .ref q21, .int 0, .ref q25, .ref q29, .ref q33, .ref q37, .int 0, .int 0])), (q5, .inl (cA 0, 31, .inl (upd (upd (upd (upd (upd (upd (upd (fun _ => 0) (0 : Int32).toNatClampNeg (3)) (3 : Int32).toNatClampNeg (5)) (1 : Int32).toNatClampNeg (6)) (4 : Int32).toNatClampNeg (5)) (2 : Int32).toNatClampNeg (9)) (5 : Int32).toNatClampNeg (5)) (6 : Int32).toNatClampNeg (10)))), (q9, .inl (cA 0, 62, .inl (fun _ => 0))), (q13, .inl (cA 1, 2, .inl (fun _ => 0))), (q17, .inl (cA 0, 14, .inl (fun _ => 0))), (q21, .inl (cA 0, 15, .inl (fun _ => 0))), (q25, .inl (cA 0, 15, .inl (fun _ => 0))), (q29, .inl (cA 0, 128, .inl (fun _ => 0))), (q33, .inl (cA 1, 168960, .inl (fun _ => 0))), (q37, .inl (cA 0, 168960, .inl (fun _ => 0)))] H := hP
  have hD : va_D A [(h0, .inr (5, [.ref q5, .ref q9, .ref q13, .ref q17, .int 0, .ref q21, .int 0, .ref q25, .ref q29, .ref q33, .ref q37, .int 0, .int 0])), (q5, .inl (cA 0, 31, .inl (upd (upd (upd (upd (upd (upd (upd (fun _ => 0) (0 : Int32).toNatClampNeg (3)) (3 : Int32).toNatClampNeg (5)) (1 : Int32).toNatClampNeg (6)) (4 : Int32).toNatClampNeg (5)) (2 : Int32).toNatClampNeg (9)) (5 : Int32).toNatClampNeg (5)) (6 : Int32).toNatClampNeg (10)))), (q9, .inl (cA 0, 62, .inl (fun _ => 0))), (q13, .inl (cA 1, 2, .inl (fun _ => 0))), (q17, .inl (cA 0, 14, .inl (fun _ => 0))), (q21, .inl (cA 0, 15, .inl (fun _ => 0))), (q25, .inl (cA 0, 15, .inl (fun _ => 0))), (q29, .inl (cA 0, 128, .inl (fun _ => 0))), (q33, .inl (cA 1, 168960, .inl (fun _ => 0))), (q37, .inl (cA 0, 168960, .inl (fun _ => 0)))] := hD
  refine lv_aload_n hx hb dX5_init_120 rfl (lv_at hl 1 rfl) ?_
  refine va_get (D := D) (ci := 5) (v := .ref q5) (C := RX5) (T := TX5) (N := 13) hx hb hg inG5 hown hK hP 0 rfl rfl 0 (by decide) (hg _ v_39) (fun _ h9 => h9) rfl dX5_init_121 ?_
  refine lv_bipush (v := 7) hx hb dX5_init_124 (by decide +kernel) ?_
  refine lv_iconst (v := 1) hx hb dX5_init_126 (by decide) ?_
  refine va_iast hx hb hK hP hD hS 1 0 rfl rfl (by unfold vp_in; decide +kernel) dX5_init_127 (fun H locs hP hD hS => ?_)
  have hP : va_P D vwCl [(h0, .inr (5, [.ref q5, .ref q9, .ref q13, .ref q17, .int 0, .ref q21, .int 0, .ref q25, .ref q29, .ref q33, .ref q37, .int 0, .int 0])), (q5, .inl (cA 0, 31, .inl (upd (upd (upd (upd (upd (upd (upd (upd (fun _ => 0) (0 : Int32).toNatClampNeg (3)) (3 : Int32).toNatClampNeg (5)) (1 : Int32).toNatClampNeg (6)) (4 : Int32).toNatClampNeg (5)) (2 : Int32).toNatClampNeg (9)) (5 : Int32).toNatClampNeg (5)) (6 : Int32).toNatClampNeg (10)) (7 : Int32).toNatClampNeg (1)))), (q9, .inl (cA 0, 62, .inl (fun _ => 0))), (q13, .inl (cA 1, 2, .inl (fun _ => 0))), (q17, .inl (cA 0, 14, .inl (fun _ => 0))), (q21, .inl (cA 0, 15, .inl (fun _ => 0))), (q25, .inl (cA 0, 15, .inl (fun _ => 0))), (q29, .inl (cA 0, 128, .inl (fun _ => 0))), (q33, .inl (cA 1, 168960, .inl (fun _ => 0))), (q37, .inl (cA 0, 168960, .inl (fun _ => 0)))] H := hP
  have hD : va_D A [(h0, .inr (5, [.ref q5, .ref q9, .ref q13, .ref q17, .int 0, .ref q21, .int 0, .ref q25, .ref q29, .ref q33, .ref q37, .int 0, .int 0])), (q5, .inl (cA 0, 31, .inl (upd (upd (upd (upd (upd (upd (upd (upd (fun _ => 0) (0 : Int32).toNatClampNeg (3)) (3 : Int32).toNatClampNeg (5)) (1 : Int32).toNatClampNeg (6)) (4 : Int32).toNatClampNeg (5)) (2 : Int32).toNatClampNeg (9)) (5 : Int32).toNatClampNeg (5)) (6 : Int32).toNatClampNeg (10)) (7 : Int32).toNatClampNeg (1)))), (q9, .inl (cA 0, 62, .inl (fun _ => 0))), (q13, .inl (cA 1, 2, .inl (fun _ => 0))), (q17, .inl (cA 0, 14, .inl (fun _ => 0))), (q21, .inl (cA 0, 15, .inl (fun _ => 0))), (q25, .inl (cA 0, 15, .inl (fun _ => 0))), (q29, .inl (cA 0, 128, .inl (fun _ => 0))), (q33, .inl (cA 1, 168960, .inl (fun _ => 0))), (q37, .inl (cA 0, 168960, .inl (fun _ => 0)))] := hD
  refine lv_aload_n hx hb dX5_init_128 rfl (lv_at hl 1 rfl) ?_
  refine va_get (D := D) (ci := 5) (v := .ref q5) (C := RX5) (T := TX5) (N := 13) hx hb hg inG5 hown hK hP 0 rfl rfl 0 (by decide) (hg _ v_39) (fun _ h9 => h9) rfl dX5_init_129 ?_
  refine lv_bipush (v := 8) hx hb dX5_init_132 (by decide +kernel) ?_
  refine lv_iconst (v := 1) hx hb dX5_init_134 (by decide) ?_
  refine va_iast hx hb hK hP hD hS 1 0 rfl rfl (by unfold vp_in; decide +kernel) dX5_init_135 (fun H locs hP hD hS => ?_)
  have hP : va_P D vwCl [(h0, .inr (5, [.ref q5, .ref q9, .ref q13, .ref q17, .int 0, .ref q21, .int 0, .ref q25, .ref q29, .ref q33, .ref q37, .int 0, .int 0])), (q5, .inl (cA 0, 31, .inl (upd (upd (upd (upd (upd (upd (upd (upd (upd (fun _ => 0) (0 : Int32).toNatClampNeg (3)) (3 : Int32).toNatClampNeg (5)) (1 : Int32).toNatClampNeg (6)) (4 : Int32).toNatClampNeg (5)) (2 : Int32).toNatClampNeg (9)) (5 : Int32).toNatClampNeg (5)) (6 : Int32).toNatClampNeg (10)) (7 : Int32).toNatClampNeg (1)) (8 : Int32).toNatClampNeg (1)))), (q9, .inl (cA 0, 62, .inl (fun _ => 0))), (q13, .inl (cA 1, 2, .inl (fun _ => 0))), (q17, .inl (cA 0, 14, .inl (fun _ => 0))), (q21, .inl (cA 0, 15, .inl (fun _ => 0))), (q25, .inl (cA 0, 15, .inl (fun _ => 0))), (q29, .inl (cA 0, 128, .inl (fun _ => 0))), (q33, .inl (cA 1, 168960, .inl (fun _ => 0))), (q37, .inl (cA 0, 168960, .inl (fun _ => 0)))] H := hP
  have hD : va_D A [(h0, .inr (5, [.ref q5, .ref q9, .ref q13, .ref q17, .int 0, .ref q21, .int 0, .ref q25, .ref q29, .ref q33, .ref q37, .int 0, .int 0])), (q5, .inl (cA 0, 31, .inl (upd (upd (upd (upd (upd (upd (upd (upd (upd (fun _ => 0) (0 : Int32).toNatClampNeg (3)) (3 : Int32).toNatClampNeg (5)) (1 : Int32).toNatClampNeg (6)) (4 : Int32).toNatClampNeg (5)) (2 : Int32).toNatClampNeg (9)) (5 : Int32).toNatClampNeg (5)) (6 : Int32).toNatClampNeg (10)) (7 : Int32).toNatClampNeg (1)) (8 : Int32).toNatClampNeg (1)))), (q9, .inl (cA 0, 62, .inl (fun _ => 0))), (q13, .inl (cA 1, 2, .inl (fun _ => 0))), (q17, .inl (cA 0, 14, .inl (fun _ => 0))), (q21, .inl (cA 0, 15, .inl (fun _ => 0))), (q25, .inl (cA 0, 15, .inl (fun _ => 0))), (q29, .inl (cA 0, 128, .inl (fun _ => 0))), (q33, .inl (cA 1, 168960, .inl (fun _ => 0))), (q37, .inl (cA 0, 168960, .inl (fun _ => 0)))] := hD
  have hP9 : va_P D vwCl (BX5 cA h0 (fun i => ([h0, q5, q9, q13, q17, q21, q25, q29, q33, q37] : List Nat).getD i 0)) H := hP.sub [0, 1, 2, 3, 4, 5, 6, 7, 8, 9] rfl
  have hD9 : va_D A (BX5 cA h0 (fun i => ([h0, q5, q9, q13, q17, q21, q25, q29, q33, q37] : List Nat).getD i 0)) := hD.sub [0, 1, 2, 3, 4, 5, 6, 7, 8, 9] (by decide) rfl
  exact W.vret hx hb hr (fun t ht hW => ⟨⟨(fun i => ([h0, q5, q9, q13, q17, q21, q25, q29, q33, q37] : List Nat).getD i 0), rfl, trivial, by rw [ht]; exact hP9, hD9⟩, hS.F ht⟩) hS.2.2 dX5_init_136
