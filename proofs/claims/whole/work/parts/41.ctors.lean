/-! constructors -/
theorem v_0 : Cond.code yX0_init cX0_init 1 none ∈ gtbl := gt_i 73 (by decide +kernel) (by decide +kernel)
theorem v_1 : Cond.initialized RX0 ∈ gtbl := gt_i 3 (by decide +kernel) (by decide +kernel)
theorem v_2 : Cond.methodLink RX0 3 objectInit ∈ gtbl := gt_i 74 (by decide +kernel) (by decide +kernel)
theorem v_3 : Cond.instanceMethod objectInit ∈ gtbl := gt_i 17 (by decide +kernel) (by decide +kernel)
theorem v_4 : Cond.code objectInit ⟨#[0xb1]⟩ 1 none ∈ gtbl := gt_i 18 (by decide +kernel) (by decide +kernel)
theorem v_5 : Cond.fieldLink RX0 9 "HeatBatches$Pad" "length" "I" ∈ gtbl := gt_i 75 (by decide +kernel) (by decide +kernel)
theorem v_6 : Cond.arrayClass .int ∈ gtbl := gt_i 67 (by decide +kernel) (by decide +kernel)
theorem v_7 : Cond.fieldLink RX0 15 "HeatBatches$Pad" "signs" "[I" ∈ gtbl := gt_i 77 (by decide +kernel) (by decide +kernel)
theorem v_8 : Cond.code yX1_init cX1_init 1 none ∈ gtbl := gt_i 87 (by decide +kernel) (by decide +kernel)
theorem v_9 : Cond.initialized RX1 ∈ gtbl := gt_i 4 (by decide +kernel) (by decide +kernel)
theorem v_10 : Cond.methodLink RX1 3 objectInit ∈ gtbl := gt_i 88 (by decide +kernel) (by decide +kernel)
theorem v_11 : Cond.fieldLink RX1 9 "HeatBatches$Plan" "batches" "I" ∈ gtbl := gt_i 89 (by decide +kernel) (by decide +kernel)
theorem v_12 : Cond.fieldLink RX1 15 "HeatBatches$Plan" "batch" "[I" ∈ gtbl := gt_i 91 (by decide +kernel) (by decide +kernel)
theorem v_13 : Cond.fieldLink RX1 19 "HeatBatches$Plan" "ends" "[I" ∈ gtbl := gt_i 92 (by decide +kernel) (by decide +kernel)
theorem v_14 : Cond.code yX2_init cX2_init 1 none ∈ gtbl := gt_i 105 (by decide +kernel) (by decide +kernel)
theorem v_15 : Cond.initialized RX2 ∈ gtbl := gt_i 5 (by decide +kernel) (by decide +kernel)
theorem v_16 : Cond.methodLink RX2 5 objectInit ∈ gtbl := gt_i 106 (by decide +kernel) (by decide +kernel)
theorem v_17 : Cond.fieldLink RX2 11 "HeatBatches$Search" "shop" "LHeatBatches$Shop;" ∈ gtbl := gt_i 107 (by decide +kernel) (by decide +kernel)
theorem v_18 : Cond.fieldLink RX2 15 "HeatBatches$Search" "measure" "I" ∈ gtbl := gt_i 108 (by decide +kernel) (by decide +kernel)
theorem v_19 : Cond.fieldLink RX2 19 "HeatBatches$Search" "familyOfBatch" "[I" ∈ gtbl := gt_i 109 (by decide +kernel) (by decide +kernel)
theorem v_20 : Cond.fieldLink RX2 23 "HeatBatches$Search" "volumeOfBatch" "[I" ∈ gtbl := gt_i 110 (by decide +kernel) (by decide +kernel)
theorem v_21 : Cond.fieldLink RX2 26 "HeatBatches$Search" "age" "I" ∈ gtbl := gt_i 111 (by decide +kernel) (by decide +kernel)
theorem v_22 : Cond.fieldLink RX2 29 "HeatBatches$Search" "keys" "[I" ∈ gtbl := gt_i 112 (by decide +kernel) (by decide +kernel)
theorem v_23 : Cond.fieldLink RX2 32 "HeatBatches$Search" "finds" "[I" ∈ gtbl := gt_i 113 (by decide +kernel) (by decide +kernel)
theorem v_24 : Cond.code yX3_init cX3_init 1 none ∈ gtbl := gt_i 23 (by decide +kernel) (by decide +kernel)
theorem v_25 : Cond.initialized RX3 ∈ gtbl := gt_i 2 (by decide +kernel) (by decide +kernel)
theorem v_26 : Cond.methodLink RX3 3 objectInit ∈ gtbl := gt_i 24 (by decide +kernel) (by decide +kernel)
theorem v_27 : Cond.fieldLink RX3 9 "HeatBatches$Shop" "heat" "[I" ∈ gtbl := gt_i 25 (by decide +kernel) (by decide +kernel)
theorem v_28 : Cond.fieldLink RX3 15 "HeatBatches$Shop" "cook" "[I" ∈ gtbl := gt_i 27 (by decide +kernel) (by decide +kernel)
theorem v_29 : Cond.fieldLink RX3 18 "HeatBatches$Shop" "room" "I" ∈ gtbl := gt_i 29 (by decide +kernel) (by decide +kernel)
theorem v_30 : Cond.fieldLink RX3 22 "HeatBatches$Shop" "up" "I" ∈ gtbl := gt_i 32 (by decide +kernel) (by decide +kernel)
theorem v_31 : Cond.fieldLink RX3 25 "HeatBatches$Shop" "down" "I" ∈ gtbl := gt_i 34 (by decide +kernel) (by decide +kernel)
theorem v_32 : Cond.fieldLink RX3 28 "HeatBatches$Shop" "jobs" "I" ∈ gtbl := gt_i 36 (by decide +kernel) (by decide +kernel)
theorem v_33 : Cond.fieldLink RX3 31 "HeatBatches$Shop" "familyOf" "[I" ∈ gtbl := gt_i 40 (by decide +kernel) (by decide +kernel)
theorem v_34 : Cond.fieldLink RX3 34 "HeatBatches$Shop" "volumeOf" "[I" ∈ gtbl := gt_i 43 (by decide +kernel) (by decide +kernel)
theorem v_35 : Cond.fieldLink RX3 37 "HeatBatches$Shop" "dueOf" "[I" ∈ gtbl := gt_i 46 (by decide +kernel) (by decide +kernel)
def rHeat : Nat → Int32 := (upd (upd (upd (upd (fun _ => 0) (0 : Int32).toNatClampNeg (3)) (1 : Int32).toNatClampNeg (6)) (2 : Int32).toNatClampNeg (9)) (3 : Int32).toNatClampNeg (0))
def rCook : Nat → Int32 := (upd (upd (upd (upd (fun _ => 0) (0 : Int32).toNatClampNeg (5)) (1 : Int32).toNatClampNeg (5)) (2 : Int32).toNatClampNeg (5)) (3 : Int32).toNatClampNeg (0))
def rState : Nat → Int32 := (upd (upd (upd (upd (upd (upd (upd (upd (upd (fun _ => 0) (0 : Int32).toNatClampNeg (3)) (3 : Int32).toNatClampNeg (5)) (1 : Int32).toNatClampNeg (6)) (4 : Int32).toNatClampNeg (5)) (2 : Int32).toNatClampNeg (9)) (5 : Int32).toNatClampNeg (5)) (6 : Int32).toNatClampNeg (10)) (7 : Int32).toNatClampNeg (1)) (8 : Int32).toNatClampNeg (1))
def MX0_init : Mth := (yX0_init, cX0_init, 1, none, fun _ _ _ => True)
theorem mkX0_init : MOk MX0_init := ⟨by decide +kernel, v_0, v_1, ⟨by decide +kernel, by decide +kernel⟩, by decide +kernel, fun _ _ _ => trivial⟩
theorem f_X0 : ∀ j, j < 2 → defaultValue (tyX0 j) = vp_V [.int 0, .null] j := fun j hj => by rcases (show j = 0 ∨ j = 1 by omega) with rfl | rfl <;> rfl
abbrev BX0 (cA : Nat → ClassId) (h0 : Nat) (u : Nat → Nat) : va_W := [(h0, .inr (0, [.int 0, .ref (u 1)])), ((u 1), .inl (cA 0, 14, .inl (fun _ => 0)))]
set_option maxHeartbeats 4000000 in
set_option maxRecDepth 100000 in
theorem c_X0 (l : Launch) (D : va_G) (cA : Nat → ClassId) : Ctor l D cA MX0_init { frames := 1, cells := 1, slots := 14, locals := 12 } 0 [.int 0, .null] (BX0 cA) 1 14 := by
  intro h0 sz
  refine Met.ofW (cc := cX0_init) (maxL := 1) (ret := none) (by decide) rfl ?_
  intro p e s m args below meth c s₁ B hml hv
  obtain ⟨rfl, hsz, hP, hK, hD0, hN⟩ := hv
  have hx := B.exec
  have hb := B.bytes
  have hr := B.returns
  have hts := atoms_spec (ws := wsM MX0_init) B.pre
  have hg : ∀ w ∈ gtbl, w.before _ s = true := fun w hw => hts w (List.mem_cons_of_mem _ hw)
  have hown : s.vm.findClass RX0 = some m.cls := findClass_of_methodNamed B.named
  have hin : meth.name = "<init>" := (name_of_methodNamed B.named B.method).1
  subst hsz
  have hD := hD0.self (sz := s.heap.size)
  generalize hAe : va_A [(h0, .inr (0, [.int 0, .null]))] s.heap.size = A at hD ⊢
  have hA : ∀ q : Nat, s.heap.size ≤ q → A q := fun q h => by rw [← hAe]; exact Or.inr h
  have hS : va_S A s.heap s.heap [] := va_S.rf
  have hl := lv_entry ([.ref h0]) (n := 1) (Nat.le_of_ble_eq_true rfl)
  rw [lg_entry_eq]
  generalize (lg_sl ([.ref h0]) ++ List.replicate (1 - (lg_sl ([.ref h0])).length) Slot.unset).toArray = ls at hl ⊢
  have hl : lv_has ls 1 [(0, .ref h0)] := hl
  refine lv_aload_n hx hb dX0_init_0 rfl (lv_at hl 0 rfl) ?_
  refine W.objInit hx hb hown (hg _ v_2) (hg _ v_3) (hg _ v_4) rfl (by rw [hml]; exact hl.1) rfl dX0_init_1 (Nat.le_of_ble_eq_true rfl) (Nat.le_of_ble_eq_true rfl) ?_
  refine W.eq (g2 := F0 m 4 ls []) rfl ?_
  refine lv_aload_n hx hb dX0_init_4 rfl (lv_at hl 0 rfl) ?_
  refine lv_iconst (v := 0) hx hb dX0_init_5 (by decide) ?_
  refine va_put (D := D) (ci := 0) (v := .int 0) (ty := .int) (C := RX0) (T := TX0) (N := 2) hx hb hg inG0 tyX0 tyX0_ok nmX0 hown hK hP hD hS 0 rfl rfl 0 (by decide) (hg _ v_5) (fun _ h9 => h9) rfl (by decide +kernel) rfl rfl (Nat.le_of_ble_eq_true rfl) dX0_init_6 (fun H locs hP hD hS => ?_)
  have hP : va_P D vwCl [(h0, .inr (0, [.int 0, .null]))] H := hP
  have hD : va_D A [(h0, .inr (0, [.int 0, .null]))] := hD
  refine lv_aload_n hx hb dX0_init_9 rfl (lv_at hl 0 rfl) ?_
  refine lv_bipush (v := 14) hx hb dX0_init_10 (by decide +kernel) ?_
  refine c_newI (cA := cA) (N' := 14) hx hb hg hK hP hD hS hA v_6 (by decide) (by decide +kernel) (Nat.le_of_ble_eq_true rfl) (Nat.le_of_ble_eq_true rfl) (Nat.le_of_ble_eq_true rfl) dX0_init_12 (fun q8 H hP hD hS => ?_)
  have hP : va_P D vwCl [(h0, .inr (0, [.int 0, .null])), (q8, .inl (cA 0, 14, .inl (fun _ => 0)))] H := hP
  have hD : va_D A [(h0, .inr (0, [.int 0, .null])), (q8, .inl (cA 0, 14, .inl (fun _ => 0)))] := hD
  refine W.widen (k := 1) (n := 14) (Nat.le_of_ble_eq_true rfl) (Nat.le_of_ble_eq_true rfl) ?_
  refine va_putF (D := D) (ci := 0) (v := .ref q8) (ty := .array .int) (C := RX0) (T := TX0) (N := 2) hx hb hg inG0 tyX0 tyX0_ok nmX0 hown hK hP hD hS 0 rfl rfl 1 (by decide) (hg _ v_7) (fun _ h9 => h9) rfl hin rfl (by decide +kernel) rfl rfl (Nat.le_of_ble_eq_true rfl) dX0_init_14 (fun H locs hP hD hS => ?_)
  have hP : va_P D vwCl [(h0, .inr (0, [.int 0, .ref q8])), (q8, .inl (cA 0, 14, .inl (fun _ => 0)))] H := hP
  have hD : va_D A [(h0, .inr (0, [.int 0, .ref q8])), (q8, .inl (cA 0, 14, .inl (fun _ => 0)))] := hD
  have hP9 : va_P D vwCl (BX0 cA h0 (fun i => ([h0, q8] : List Nat).getD i 0)) H := hP.sub [0, 1] rfl
  have hD9 : va_D A (BX0 cA h0 (fun i => ([h0, q8] : List Nat).getD i 0)) := hD.sub [0, 1] (by decide) rfl
  exact W.vret hx hb hr (fun t ht hW => ⟨⟨(fun i => ([h0, q8] : List Nat).getD i 0), rfl, trivial, by rw [ht]; exact hP9, hD9⟩, hS.F ht⟩) hS.2.2 dX0_init_17
theorem nw_X0 : Cond.methodLinkNest RX4 29 MX0_init.1 "HeatBatches" ∈ nestWs := List.mem_filter.mpr ⟨List.mem_of_getElem? (i := 71) (by decide +kernel), rfl⟩
def MX1_init : Mth := (yX1_init, cX1_init, 1, none, fun _ _ _ => True)
theorem mkX1_init : MOk MX1_init := ⟨by decide +kernel, v_8, v_9, ⟨by decide +kernel, by decide +kernel⟩, by decide +kernel, fun _ _ _ => trivial⟩
theorem f_X1 : ∀ j, j < 3 → defaultValue (tyX1 j) = vp_V [.int 0, .null, .null] j := fun j hj => by rcases (show j = 0 ∨ j = 1 ∨ j = 2 by omega) with rfl | rfl | rfl <;> rfl
abbrev BX1 (cA : Nat → ClassId) (h0 : Nat) (u : Nat → Nat) : va_W := [(h0, .inr (1, [.int 0, .ref (u 1), .ref (u 2)])), ((u 1), .inl (cA 0, 7, .inl (fun _ => 0))), ((u 2), .inl (cA 0, 7, .inl (fun _ => 0)))]
set_option maxHeartbeats 4000000 in
set_option maxRecDepth 100000 in
theorem c_X1 (l : Launch) (D : va_G) (cA : Nat → ClassId) : Ctor l D cA MX1_init { frames := 1, cells := 2, slots := 14, locals := 12 } 1 [.int 0, .null, .null] (BX1 cA) 2 14 := by
  intro h0 sz
  refine Met.ofW (cc := cX1_init) (maxL := 1) (ret := none) (by decide) rfl ?_
  intro p e s m args below meth c s₁ B hml hv
  obtain ⟨rfl, hsz, hP, hK, hD0, hN⟩ := hv
  have hx := B.exec
  have hb := B.bytes
  have hr := B.returns
  have hts := atoms_spec (ws := wsM MX1_init) B.pre
  have hg : ∀ w ∈ gtbl, w.before _ s = true := fun w hw => hts w (List.mem_cons_of_mem _ hw)
  have hown : s.vm.findClass RX1 = some m.cls := findClass_of_methodNamed B.named
  have hin : meth.name = "<init>" := (name_of_methodNamed B.named B.method).1
  subst hsz
  have hD := hD0.self (sz := s.heap.size)
  generalize hAe : va_A [(h0, .inr (1, [.int 0, .null, .null]))] s.heap.size = A at hD ⊢
  have hA : ∀ q : Nat, s.heap.size ≤ q → A q := fun q h => by rw [← hAe]; exact Or.inr h
  have hS : va_S A s.heap s.heap [] := va_S.rf
  have hl := lv_entry ([.ref h0]) (n := 1) (Nat.le_of_ble_eq_true rfl)
  rw [lg_entry_eq]
  generalize (lg_sl ([.ref h0]) ++ List.replicate (1 - (lg_sl ([.ref h0])).length) Slot.unset).toArray = ls at hl ⊢
  have hl : lv_has ls 1 [(0, .ref h0)] := hl
  refine lv_aload_n hx hb dX1_init_0 rfl (lv_at hl 0 rfl) ?_
  refine W.objInit hx hb hown (hg _ v_10) (hg _ v_3) (hg _ v_4) rfl (by rw [hml]; exact hl.1) rfl dX1_init_1 (Nat.le_of_ble_eq_true rfl) (Nat.le_of_ble_eq_true rfl) ?_
  refine W.eq (g2 := F0 m 4 ls []) rfl ?_
  refine lv_aload_n hx hb dX1_init_4 rfl (lv_at hl 0 rfl) ?_
  refine lv_iconst (v := 0) hx hb dX1_init_5 (by decide) ?_
  refine va_put (D := D) (ci := 1) (v := .int 0) (ty := .int) (C := RX1) (T := TX1) (N := 3) hx hb hg inG1 tyX1 tyX1_ok nmX1 hown hK hP hD hS 0 rfl rfl 0 (by decide) (hg _ v_11) (fun _ h9 => h9) rfl (by decide +kernel) rfl rfl (Nat.le_of_ble_eq_true rfl) dX1_init_6 (fun H locs hP hD hS => ?_)
  have hP : va_P D vwCl [(h0, .inr (1, [.int 0, .null, .null]))] H := hP
  have hD : va_D A [(h0, .inr (1, [.int 0, .null, .null]))] := hD
  refine lv_aload_n hx hb dX1_init_9 rfl (lv_at hl 0 rfl) ?_
  refine lv_bipush (v := 7) hx hb dX1_init_10 (by decide +kernel) ?_
  refine c_newI (cA := cA) (N' := 7) hx hb hg hK hP hD hS hA v_6 (by decide) (by decide +kernel) (Nat.le_of_ble_eq_true rfl) (Nat.le_of_ble_eq_true rfl) (Nat.le_of_ble_eq_true rfl) dX1_init_12 (fun q8 H hP hD hS => ?_)
  have hP : va_P D vwCl [(h0, .inr (1, [.int 0, .null, .null])), (q8, .inl (cA 0, 7, .inl (fun _ => 0)))] H := hP
  have hD : va_D A [(h0, .inr (1, [.int 0, .null, .null])), (q8, .inl (cA 0, 7, .inl (fun _ => 0)))] := hD
  refine W.widen (k := 1) (n := 7) (Nat.le_of_ble_eq_true rfl) (Nat.le_of_ble_eq_true rfl) ?_
  refine va_putF (D := D) (ci := 1) (v := .ref q8) (ty := .array .int) (C := RX1) (T := TX1) (N := 3) hx hb hg inG1 tyX1 tyX1_ok nmX1 hown hK hP hD hS 0 rfl rfl 1 (by decide) (hg _ v_12) (fun _ h9 => h9) rfl hin rfl (by decide +kernel) rfl rfl (Nat.le_of_ble_eq_true rfl) dX1_init_14 (fun H locs hP hD hS => ?_)
  have hP : va_P D vwCl [(h0, .inr (1, [.int 0, .ref q8, .null])), (q8, .inl (cA 0, 7, .inl (fun _ => 0)))] H := hP
  have hD : va_D A [(h0, .inr (1, [.int 0, .ref q8, .null])), (q8, .inl (cA 0, 7, .inl (fun _ => 0)))] := hD
  refine lv_aload_n hx hb dX1_init_17 rfl (lv_at hl 0 rfl) ?_
  refine lv_bipush (v := 7) hx hb dX1_init_18 (by decide +kernel) ?_
  refine c_newI (cA := cA) (N' := 7) hx hb hg hK hP hD hS hA v_6 (by decide) (by decide +kernel) (Nat.le_of_ble_eq_true rfl) (Nat.le_of_ble_eq_true rfl) (Nat.le_of_ble_eq_true rfl) dX1_init_20 (fun q12 H hP hD hS => ?_)
  have hP : va_P D vwCl [(h0, .inr (1, [.int 0, .ref q8, .null])), (q8, .inl (cA 0, 7, .inl (fun _ => 0))), (q12, .inl (cA 0, 7, .inl (fun _ => 0)))] H := hP
  have hD : va_D A [(h0, .inr (1, [.int 0, .ref q8, .null])), (q8, .inl (cA 0, 7, .inl (fun _ => 0))), (q12, .inl (cA 0, 7, .inl (fun _ => 0)))] := hD
  refine W.widen (k := 2) (n := 14) (Nat.le_of_ble_eq_true rfl) (Nat.le_of_ble_eq_true rfl) ?_
  refine va_putF (D := D) (ci := 1) (v := .ref q12) (ty := .array .int) (C := RX1) (T := TX1) (N := 3) hx hb hg inG1 tyX1 tyX1_ok nmX1 hown hK hP hD hS 0 rfl rfl 2 (by decide) (hg _ v_13) (fun _ h9 => h9) rfl hin rfl (by decide +kernel) rfl rfl (Nat.le_of_ble_eq_true rfl) dX1_init_22 (fun H locs hP hD hS => ?_)
  have hP : va_P D vwCl [(h0, .inr (1, [.int 0, .ref q8, .ref q12])), (q8, .inl (cA 0, 7, .inl (fun _ => 0))), (q12, .inl (cA 0, 7, .inl (fun _ => 0)))] H := hP
  have hD : va_D A [(h0, .inr (1, [.int 0, .ref q8, .ref q12])), (q8, .inl (cA 0, 7, .inl (fun _ => 0))), (q12, .inl (cA 0, 7, .inl (fun _ => 0)))] := hD
  have hP9 : va_P D vwCl (BX1 cA h0 (fun i => ([h0, q8, q12] : List Nat).getD i 0)) H := hP.sub [0, 1, 2] rfl
  have hD9 : va_D A (BX1 cA h0 (fun i => ([h0, q8, q12] : List Nat).getD i 0)) := hD.sub [0, 1, 2] (by decide) rfl
  exact W.vret hx hb hr (fun t ht hW => ⟨⟨(fun i => ([h0, q8, q12] : List Nat).getD i 0), rfl, trivial, by rw [ht]; exact hP9, hD9⟩, hS.F ht⟩) hS.2.2 dX1_init_25
theorem nw_X1 : Cond.methodLinkNest RX4 36 MX1_init.1 "HeatBatches" ∈ nestWs := List.mem_filter.mpr ⟨List.mem_of_getElem? (i := 85) (by decide +kernel), rfl⟩
def MX2_init : Mth := (yX2_init, cX2_init, 1, none, fun _ _ _ => True)
theorem mkX2_init : MOk MX2_init := ⟨by decide +kernel, v_14, v_15, ⟨by decide +kernel, by decide +kernel⟩, by decide +kernel, fun _ _ _ => trivial⟩
theorem f_X2 : ∀ j, j < 7 → defaultValue (tyX2 j) = vp_V [.null, .int 0, .null, .null, .int 0, .null, .null] j := fun j hj => by rcases (show j = 0 ∨ j = 1 ∨ j = 2 ∨ j = 3 ∨ j = 4 ∨ j = 5 ∨ j = 6 by omega) with rfl | rfl | rfl | rfl | rfl | rfl | rfl <;> rfl
abbrev BX2 (cA : Nat → ClassId) (h0 : Nat) (u : Nat → Nat) : va_W := [(h0, .inr (2, [.null, .int 0, .ref (u 1), .ref (u 2), .int 0, .ref (u 3), .ref (u 4)])), ((u 1), .inl (cA 0, 128, .inl (fun _ => 0))), ((u 2), .inl (cA 0, 128, .inl (fun _ => 0))), ((u 3), .inl (cA 0, 2048, .inl (fun _ => 0))), ((u 4), .inl (cA 0, 2048, .inl (fun _ => 0)))]
set_option maxHeartbeats 4000000 in
set_option maxRecDepth 100000 in
theorem c_X2 (l : Launch) (D : va_G) (cA : Nat → ClassId) : Ctor l D cA MX2_init { frames := 1, cells := 4, slots := 4352, locals := 12 } 2 [.null, .int 0, .null, .null, .int 0, .null, .null] (BX2 cA) 4 4352 := by
  intro h0 sz
  refine Met.ofW (cc := cX2_init) (maxL := 1) (ret := none) (by decide) rfl ?_
  intro p e s m args below meth c s₁ B hml hv
  obtain ⟨rfl, hsz, hP, hK, hD0, hN⟩ := hv
  have hx := B.exec
  have hb := B.bytes
  have hr := B.returns
  have hts := atoms_spec (ws := wsM MX2_init) B.pre
  have hg : ∀ w ∈ gtbl, w.before _ s = true := fun w hw => hts w (List.mem_cons_of_mem _ hw)
  have hown : s.vm.findClass RX2 = some m.cls := findClass_of_methodNamed B.named
  have hin : meth.name = "<init>" := (name_of_methodNamed B.named B.method).1
  subst hsz
  have hD := hD0.self (sz := s.heap.size)
  generalize hAe : va_A [(h0, .inr (2, [.null, .int 0, .null, .null, .int 0, .null, .null]))] s.heap.size = A at hD ⊢
  have hA : ∀ q : Nat, s.heap.size ≤ q → A q := fun q h => by rw [← hAe]; exact Or.inr h
  have hS : va_S A s.heap s.heap [] := va_S.rf
  have hl := lv_entry ([.ref h0]) (n := 1) (Nat.le_of_ble_eq_true rfl)
  rw [lg_entry_eq]
  generalize (lg_sl ([.ref h0]) ++ List.replicate (1 - (lg_sl ([.ref h0])).length) Slot.unset).toArray = ls at hl ⊢
  have hl : lv_has ls 1 [(0, .ref h0)] := hl
  refine lv_aload_n hx hb dX2_init_0 rfl (lv_at hl 0 rfl) ?_
  refine W.objInit hx hb hown (hg _ v_16) (hg _ v_3) (hg _ v_4) rfl (by rw [hml]; exact hl.1) rfl dX2_init_1 (Nat.le_of_ble_eq_true rfl) (Nat.le_of_ble_eq_true rfl) ?_
  refine W.eq (g2 := F0 m 4 ls []) rfl ?_
  refine lv_aload_n hx hb dX2_init_4 rfl (lv_at hl 0 rfl) ?_
  refine lv_null hx hb dX2_init_5 ?_
  refine va_put (D := D) (ci := 2) (v := .null) (ty := .object "HeatBatches$Shop") (C := RX2) (T := TX2) (N := 7) hx hb hg inG2 tyX2 tyX2_ok nmX2 hown hK hP hD hS 0 rfl rfl 0 (by decide) (hg _ v_17) (fun _ h9 => h9) rfl (by decide +kernel) rfl rfl (Nat.le_of_ble_eq_true rfl) dX2_init_6 (fun H locs hP hD hS => ?_)
  have hP : va_P D vwCl [(h0, .inr (2, [.null, .int 0, .null, .null, .int 0, .null, .null]))] H := hP
  have hD : va_D A [(h0, .inr (2, [.null, .int 0, .null, .null, .int 0, .null, .null]))] := hD
  refine lv_aload_n hx hb dX2_init_9 rfl (lv_at hl 0 rfl) ?_
  refine lv_iconst (v := 0) hx hb dX2_init_10 (by decide) ?_
  refine va_put (D := D) (ci := 2) (v := .int 0) (ty := .int) (C := RX2) (T := TX2) (N := 7) hx hb hg inG2 tyX2 tyX2_ok nmX2 hown hK hP hD hS 0 rfl rfl 1 (by decide) (hg _ v_18) (fun _ h9 => h9) rfl (by decide +kernel) rfl rfl (Nat.le_of_ble_eq_true rfl) dX2_init_11 (fun H locs hP hD hS => ?_)
  have hP : va_P D vwCl [(h0, .inr (2, [.null, .int 0, .null, .null, .int 0, .null, .null]))] H := hP
  have hD : va_D A [(h0, .inr (2, [.null, .int 0, .null, .null, .int 0, .null, .null]))] := hD
  refine lv_aload_n hx hb dX2_init_14 rfl (lv_at hl 0 rfl) ?_
  refine lv_sipush (v := 128) hx hb dX2_init_15 (by decide +kernel) ?_
  refine c_newI (cA := cA) (N' := 128) hx hb hg hK hP hD hS hA v_6 (by decide) (by decide +kernel) (Nat.le_of_ble_eq_true rfl) (Nat.le_of_ble_eq_true rfl) (Nat.le_of_ble_eq_true rfl) dX2_init_18 (fun q11 H hP hD hS => ?_)
  have hP : va_P D vwCl [(h0, .inr (2, [.null, .int 0, .null, .null, .int 0, .null, .null])), (q11, .inl (cA 0, 128, .inl (fun _ => 0)))] H := hP
  have hD : va_D A [(h0, .inr (2, [.null, .int 0, .null, .null, .int 0, .null, .null])), (q11, .inl (cA 0, 128, .inl (fun _ => 0)))] := hD
  refine W.widen (k := 1) (n := 128) (Nat.le_of_ble_eq_true rfl) (Nat.le_of_ble_eq_true rfl) ?_
  refine va_putF (D := D) (ci := 2) (v := .ref q11) (ty := .array .int) (C := RX2) (T := TX2) (N := 7) hx hb hg inG2 tyX2 tyX2_ok nmX2 hown hK hP hD hS 0 rfl rfl 2 (by decide) (hg _ v_19) (fun _ h9 => h9) rfl hin rfl (by decide +kernel) rfl rfl (Nat.le_of_ble_eq_true rfl) dX2_init_20 (fun H locs hP hD hS => ?_)
  have hP : va_P D vwCl [(h0, .inr (2, [.null, .int 0, .ref q11, .null, .int 0, .null, .null])), (q11, .inl (cA 0, 128, .inl (fun _ => 0)))] H := hP
  have hD : va_D A [(h0, .inr (2, [.null, .int 0, .ref q11, .null, .int 0, .null, .null])), (q11, .inl (cA 0, 128, .inl (fun _ => 0)))] := hD
  refine lv_aload_n hx hb dX2_init_23 rfl (lv_at hl 0 rfl) ?_
  refine lv_sipush (v := 128) hx hb dX2_init_24 (by decide +kernel) ?_
  refine c_newI (cA := cA) (N' := 128) hx hb hg hK hP hD hS hA v_6 (by decide) (by decide +kernel) (Nat.le_of_ble_eq_true rfl) (Nat.le_of_ble_eq_true rfl) (Nat.le_of_ble_eq_true rfl) dX2_init_27 (fun q15 H hP hD hS => ?_)
  have hP : va_P D vwCl [(h0, .inr (2, [.null, .int 0, .ref q11, .null, .int 0, .null, .null])), (q11, .inl (cA 0, 128, .inl (fun _ => 0))), (q15, .inl (cA 0, 128, .inl (fun _ => 0)))] H := hP
  have hD : va_D A [(h0, .inr (2, [.null, .int 0, .ref q11, .null, .int 0, .null, .null])), (q11, .inl (cA 0, 128, .inl (fun _ => 0))), (q15, .inl (cA 0, 128, .inl (fun _ => 0)))] := hD
  refine W.widen (k := 2) (n := 256) (Nat.le_of_ble_eq_true rfl) (Nat.le_of_ble_eq_true rfl) ?_
  refine va_putF (D := D) (ci := 2) (v := .ref q15) (ty := .array .int) (C := RX2) (T := TX2) (N := 7) hx hb hg inG2 tyX2 tyX2_ok nmX2 hown hK hP hD hS 0 rfl rfl 3 (by decide) (hg _ v_20) (fun _ h9 => h9) rfl hin rfl (by decide +kernel) rfl rfl (Nat.le_of_ble_eq_true rfl) dX2_init_29 (fun H locs hP hD hS => ?_)
  have hP : va_P D vwCl [(h0, .inr (2, [.null, .int 0, .ref q11, .ref q15, .int 0, .null, .null])), (q11, .inl (cA 0, 128, .inl (fun _ => 0))), (q15, .inl (cA 0, 128, .inl (fun _ => 0)))] H := hP
  have hD : va_D A [(h0, .inr (2, [.null, .int 0, .ref q11, .ref q15, .int 0, .null, .null])), (q11, .inl (cA 0, 128, .inl (fun _ => 0))), (q15, .inl (cA 0, 128, .inl (fun _ => 0)))] := hD
  refine lv_aload_n hx hb dX2_init_32 rfl (lv_at hl 0 rfl) ?_
  refine lv_iconst (v := 0) hx hb dX2_init_33 (by decide) ?_
  refine va_put (D := D) (ci := 2) (v := .int 0) (ty := .int) (C := RX2) (T := TX2) (N := 7) hx hb hg inG2 tyX2 tyX2_ok nmX2 hown hK hP hD hS 0 rfl rfl 4 (by decide) (hg _ v_21) (fun _ h9 => h9) rfl (by decide +kernel) rfl rfl (Nat.le_of_ble_eq_true rfl) dX2_init_34 (fun H locs hP hD hS => ?_)
  have hP : va_P D vwCl [(h0, .inr (2, [.null, .int 0, .ref q11, .ref q15, .int 0, .null, .null])), (q11, .inl (cA 0, 128, .inl (fun _ => 0))), (q15, .inl (cA 0, 128, .inl (fun _ => 0)))] H := hP
  have hD : va_D A [(h0, .inr (2, [.null, .int 0, .ref q11, .ref q15, .int 0, .null, .null])), (q11, .inl (cA 0, 128, .inl (fun _ => 0))), (q15, .inl (cA 0, 128, .inl (fun _ => 0)))] := hD
  refine lv_aload_n hx hb dX2_init_37 rfl (lv_at hl 0 rfl) ?_
  refine lv_sipush (v := 2048) hx hb dX2_init_38 (by decide +kernel) ?_
  refine c_newI (cA := cA) (N' := 2048) hx hb hg hK hP hD hS hA v_6 (by decide) (by decide +kernel) (Nat.le_of_ble_eq_true rfl) (Nat.le_of_ble_eq_true rfl) (Nat.le_of_ble_eq_true rfl) dX2_init_41 (fun q22 H hP hD hS => ?_)
  have hP : va_P D vwCl [(h0, .inr (2, [.null, .int 0, .ref q11, .ref q15, .int 0, .null, .null])), (q11, .inl (cA 0, 128, .inl (fun _ => 0))), (q15, .inl (cA 0, 128, .inl (fun _ => 0))), (q22, .inl (cA 0, 2048, .inl (fun _ => 0)))] H := hP
  have hD : va_D A [(h0, .inr (2, [.null, .int 0, .ref q11, .ref q15, .int 0, .null, .null])), (q11, .inl (cA 0, 128, .inl (fun _ => 0))), (q15, .inl (cA 0, 128, .inl (fun _ => 0))), (q22, .inl (cA 0, 2048, .inl (fun _ => 0)))] := hD
  refine W.widen (k := 3) (n := 2304) (Nat.le_of_ble_eq_true rfl) (Nat.le_of_ble_eq_true rfl) ?_
  refine va_putF (D := D) (ci := 2) (v := .ref q22) (ty := .array .int) (C := RX2) (T := TX2) (N := 7) hx hb hg inG2 tyX2 tyX2_ok nmX2 hown hK hP hD hS 0 rfl rfl 5 (by decide) (hg _ v_22) (fun _ h9 => h9) rfl hin rfl (by decide +kernel) rfl rfl (Nat.le_of_ble_eq_true rfl) dX2_init_43 (fun H locs hP hD hS => ?_)
  have hP : va_P D vwCl [(h0, .inr (2, [.null, .int 0, .ref q11, .ref q15, .int 0, .ref q22, .null])), (q11, .inl (cA 0, 128, .inl (fun _ => 0))), (q15, .inl (cA 0, 128, .inl (fun _ => 0))), (q22, .inl (cA 0, 2048, .inl (fun _ => 0)))] H := hP
  have hD : va_D A [(h0, .inr (2, [.null, .int 0, .ref q11, .ref q15, .int 0, .ref q22, .null])), (q11, .inl (cA 0, 128, .inl (fun _ => 0))), (q15, .inl (cA 0, 128, .inl (fun _ => 0))), (q22, .inl (cA 0, 2048, .inl (fun _ => 0)))] := hD
  refine lv_aload_n hx hb dX2_init_46 rfl (lv_at hl 0 rfl) ?_
  refine lv_sipush (v := 2048) hx hb dX2_init_47 (by decide +kernel) ?_
  refine c_newI (cA := cA) (N' := 2048) hx hb hg hK hP hD hS hA v_6 (by decide) (by decide +kernel) (Nat.le_of_ble_eq_true rfl) (Nat.le_of_ble_eq_true rfl) (Nat.le_of_ble_eq_true rfl) dX2_init_50 (fun q26 H hP hD hS => ?_)
  have hP : va_P D vwCl [(h0, .inr (2, [.null, .int 0, .ref q11, .ref q15, .int 0, .ref q22, .null])), (q11, .inl (cA 0, 128, .inl (fun _ => 0))), (q15, .inl (cA 0, 128, .inl (fun _ => 0))), (q22, .inl (cA 0, 2048, .inl (fun _ => 0))), (q26, .inl (cA 0, 2048, .inl (fun _ => 0)))] H := hP
  have hD : va_D A [(h0, .inr (2, [.null, .int 0, .ref q11, .ref q15, .int 0, .ref q22, .null])), (q11, .inl (cA 0, 128, .inl (fun _ => 0))), (q15, .inl (cA 0, 128, .inl (fun _ => 0))), (q22, .inl (cA 0, 2048, .inl (fun _ => 0))), (q26, .inl (cA 0, 2048, .inl (fun _ => 0)))] := hD
  refine W.widen (k := 4) (n := 4352) (Nat.le_of_ble_eq_true rfl) (Nat.le_of_ble_eq_true rfl) ?_
  refine va_putF (D := D) (ci := 2) (v := .ref q26) (ty := .array .int) (C := RX2) (T := TX2) (N := 7) hx hb hg inG2 tyX2 tyX2_ok nmX2 hown hK hP hD hS 0 rfl rfl 6 (by decide) (hg _ v_23) (fun _ h9 => h9) rfl hin rfl (by decide +kernel) rfl rfl (Nat.le_of_ble_eq_true rfl) dX2_init_52 (fun H locs hP hD hS => ?_)
  have hP : va_P D vwCl [(h0, .inr (2, [.null, .int 0, .ref q11, .ref q15, .int 0, .ref q22, .ref q26])), (q11, .inl (cA 0, 128, .inl (fun _ => 0))), (q15, .inl (cA 0, 128, .inl (fun _ => 0))), (q22, .inl (cA 0, 2048, .inl (fun _ => 0))), (q26, .inl (cA 0, 2048, .inl (fun _ => 0)))] H := hP
  have hD : va_D A [(h0, .inr (2, [.null, .int 0, .ref q11, .ref q15, .int 0, .ref q22, .ref q26])), (q11, .inl (cA 0, 128, .inl (fun _ => 0))), (q15, .inl (cA 0, 128, .inl (fun _ => 0))), (q22, .inl (cA 0, 2048, .inl (fun _ => 0))), (q26, .inl (cA 0, 2048, .inl (fun _ => 0)))] := hD
  have hP9 : va_P D vwCl (BX2 cA h0 (fun i => ([h0, q11, q15, q22, q26] : List Nat).getD i 0)) H := hP.sub [0, 1, 2, 3, 4] rfl
  have hD9 : va_D A (BX2 cA h0 (fun i => ([h0, q11, q15, q22, q26] : List Nat).getD i 0)) := hD.sub [0, 1, 2, 3, 4] (by decide) rfl
  exact W.vret hx hb hr (fun t ht hW => ⟨⟨(fun i => ([h0, q11, q15, q22, q26] : List Nat).getD i 0), rfl, trivial, by rw [ht]; exact hP9, hD9⟩, hS.F ht⟩) hS.2.2 dX2_init_55
theorem nw_X2 : Cond.methodLinkNest RX4 61 MX2_init.1 "HeatBatches" ∈ nestWs := List.mem_filter.mpr ⟨List.mem_of_getElem? (i := 103) (by decide +kernel), rfl⟩
def MX3_init : Mth := (yX3_init, cX3_init, 1, none, fun _ _ _ => True)
theorem mkX3_init : MOk MX3_init := ⟨by decide +kernel, v_24, v_25, ⟨by decide +kernel, by decide +kernel⟩, by decide +kernel, fun _ _ _ => trivial⟩
theorem f_X3 : ∀ j, j < 9 → defaultValue (tyX3 j) = vp_V [.null, .null, .int 0, .int 0, .int 0, .int 0, .null, .null, .null] j := fun j hj => by rcases (show j = 0 ∨ j = 1 ∨ j = 2 ∨ j = 3 ∨ j = 4 ∨ j = 5 ∨ j = 6 ∨ j = 7 ∨ j = 8 by omega) with rfl | rfl | rfl | rfl | rfl | rfl | rfl | rfl | rfl <;> rfl
abbrev BX3 (cA : Nat → ClassId) (h0 : Nat) (u : Nat → Nat) : va_W := [(h0, .inr (3, [.ref (u 1), .ref (u 2), .int 10, .int 1, .int 1, .int 0, .ref (u 3), .ref (u 4), .ref (u 5)])), ((u 1), .inl (cA 0, 4, .inl rHeat)), ((u 2), .inl (cA 0, 4, .inl rCook)), ((u 3), .inl (cA 0, 7, .inl (fun _ => 0))), ((u 4), .inl (cA 0, 7, .inl (fun _ => 0))), ((u 5), .inl (cA 0, 7, .inl (fun _ => 0)))]
set_option maxHeartbeats 4000000 in
set_option maxRecDepth 100000 in
theorem c_X3 (l : Launch) (D : va_G) (cA : Nat → ClassId) : Ctor l D cA MX3_init { frames := 1, cells := 5, slots := 29, locals := 12 } 3 [.null, .null, .int 0, .int 0, .int 0, .int 0, .null, .null, .null] (BX3 cA) 5 29 := by
  intro h0 sz
  refine Met.ofW (cc := cX3_init) (maxL := 1) (ret := none) (by decide) rfl ?_
  intro p e s m args below meth c s₁ B hml hv
  obtain ⟨rfl, hsz, hP, hK, hD0, hN⟩ := hv
  have hx := B.exec
  have hb := B.bytes
  have hr := B.returns
  have hts := atoms_spec (ws := wsM MX3_init) B.pre
  have hg : ∀ w ∈ gtbl, w.before _ s = true := fun w hw => hts w (List.mem_cons_of_mem _ hw)
  have hown : s.vm.findClass RX3 = some m.cls := findClass_of_methodNamed B.named
  have hin : meth.name = "<init>" := (name_of_methodNamed B.named B.method).1
  subst hsz
  have hD := hD0.self (sz := s.heap.size)
  generalize hAe : va_A [(h0, .inr (3, [.null, .null, .int 0, .int 0, .int 0, .int 0, .null, .null, .null]))] s.heap.size = A at hD ⊢
  have hA : ∀ q : Nat, s.heap.size ≤ q → A q := fun q h => by rw [← hAe]; exact Or.inr h
  have hS : va_S A s.heap s.heap [] := va_S.rf
  have hl := lv_entry ([.ref h0]) (n := 1) (Nat.le_of_ble_eq_true rfl)
  rw [lg_entry_eq]
  generalize (lg_sl ([.ref h0]) ++ List.replicate (1 - (lg_sl ([.ref h0])).length) Slot.unset).toArray = ls at hl ⊢
  have hl : lv_has ls 1 [(0, .ref h0)] := hl
  refine lv_aload_n hx hb dX3_init_0 rfl (lv_at hl 0 rfl) ?_
  refine W.objInit hx hb hown (hg _ v_26) (hg _ v_3) (hg _ v_4) rfl (by rw [hml]; exact hl.1) rfl dX3_init_1 (Nat.le_of_ble_eq_true rfl) (Nat.le_of_ble_eq_true rfl) ?_
  refine W.eq (g2 := F0 m 4 ls []) rfl ?_
  refine lv_aload_n hx hb dX3_init_4 rfl (lv_at hl 0 rfl) ?_
  refine lv_iconst (v := 4) hx hb dX3_init_5 (by decide) ?_
  refine c_newI (cA := cA) (N' := 4) hx hb hg hK hP hD hS hA v_6 (by decide) (by decide +kernel) (Nat.le_of_ble_eq_true rfl) (Nat.le_of_ble_eq_true rfl) (Nat.le_of_ble_eq_true rfl) dX3_init_6 (fun q5 H hP hD hS => ?_)
  have hP : va_P D vwCl [(h0, .inr (3, [.null, .null, .int 0, .int 0, .int 0, .int 0, .null, .null, .null])), (q5, .inl (cA 0, 4, .inl (fun _ => 0)))] H := hP
  have hD : va_D A [(h0, .inr (3, [.null, .null, .int 0, .int 0, .int 0, .int 0, .null, .null, .null])), (q5, .inl (cA 0, 4, .inl (fun _ => 0)))] := hD
  refine W.widen (k := 1) (n := 4) (Nat.le_of_ble_eq_true rfl) (Nat.le_of_ble_eq_true rfl) ?_
  refine lv_dup hx hb dX3_init_8 rfl ?_
  refine lv_iconst (v := 0) hx hb dX3_init_9 (by decide) ?_
  refine lv_iconst (v := 3) hx hb dX3_init_10 (by decide) ?_
  refine va_iast hx hb hK hP hD hS 1 0 rfl rfl (by unfold vp_in; decide +kernel) dX3_init_11 (fun H locs hP hD hS => ?_)
  have hP : va_P D vwCl [(h0, .inr (3, [.null, .null, .int 0, .int 0, .int 0, .int 0, .null, .null, .null])), (q5, .inl (cA 0, 4, .inl (upd (fun _ => 0) (0 : Int32).toNatClampNeg (3))))] H := hP
  have hD : va_D A [(h0, .inr (3, [.null, .null, .int 0, .int 0, .int 0, .int 0, .null, .null, .null])), (q5, .inl (cA 0, 4, .inl (upd (fun _ => 0) (0 : Int32).toNatClampNeg (3))))] := hD
  refine lv_dup hx hb dX3_init_12 rfl ?_
  refine lv_iconst (v := 1) hx hb dX3_init_13 (by decide) ?_
  refine lv_bipush (v := 6) hx hb dX3_init_14 (by decide +kernel) ?_
  refine va_iast hx hb hK hP hD hS 1 0 rfl rfl (by unfold vp_in; decide +kernel) dX3_init_16 (fun H locs hP hD hS => ?_)
  have hP : va_P D vwCl [(h0, .inr (3, [.null, .null, .int 0, .int 0, .int 0, .int 0, .null, .null, .null])), (q5, .inl (cA 0, 4, .inl (upd (upd (fun _ => 0) (0 : Int32).toNatClampNeg (3)) (1 : Int32).toNatClampNeg (6))))] H := hP
  have hD : va_D A [(h0, .inr (3, [.null, .null, .int 0, .int 0, .int 0, .int 0, .null, .null, .null])), (q5, .inl (cA 0, 4, .inl (upd (upd (fun _ => 0) (0 : Int32).toNatClampNeg (3)) (1 : Int32).toNatClampNeg (6))))] := hD
  refine lv_dup hx hb dX3_init_17 rfl ?_
  refine lv_iconst (v := 2) hx hb dX3_init_18 (by decide) ?_
  refine lv_bipush (v := 9) hx hb dX3_init_19 (by decide +kernel) ?_
  refine va_iast hx hb hK hP hD hS 1 0 rfl rfl (by unfold vp_in; decide +kernel) dX3_init_21 (fun H locs hP hD hS => ?_)
  have hP : va_P D vwCl [(h0, .inr (3, [.null, .null, .int 0, .int 0, .int 0, .int 0, .null, .null, .null])), (q5, .inl (cA 0, 4, .inl (upd (upd (upd (fun _ => 0) (0 : Int32).toNatClampNeg (3)) (1 : Int32).toNatClampNeg (6)) (2 : Int32).toNatClampNeg (9))))] H := hP
  have hD : va_D A [(h0, .inr (3, [.null, .null, .int 0, .int 0, .int 0, .int 0, .null, .null, .null])), (q5, .inl (cA 0, 4, .inl (upd (upd (upd (fun _ => 0) (0 : Int32).toNatClampNeg (3)) (1 : Int32).toNatClampNeg (6)) (2 : Int32).toNatClampNeg (9))))] := hD
  refine lv_dup hx hb dX3_init_22 rfl ?_
  refine lv_iconst (v := 3) hx hb dX3_init_23 (by decide) ?_
  refine lv_iconst (v := 0) hx hb dX3_init_24 (by decide) ?_
  refine va_iast hx hb hK hP hD hS 1 0 rfl rfl (by unfold vp_in; decide +kernel) dX3_init_25 (fun H locs hP hD hS => ?_)
  have hP : va_P D vwCl [(h0, .inr (3, [.null, .null, .int 0, .int 0, .int 0, .int 0, .null, .null, .null])), (q5, .inl (cA 0, 4, .inl (upd (upd (upd (upd (fun _ => 0) (0 : Int32).toNatClampNeg (3)) (1 : Int32).toNatClampNeg (6)) (2 : Int32).toNatClampNeg (9)) (3 : Int32).toNatClampNeg (0))))] H := hP
  have hD : va_D A [(h0, .inr (3, [.null, .null, .int 0, .int 0, .int 0, .int 0, .null, .null, .null])), (q5, .inl (cA 0, 4, .inl (upd (upd (upd (upd (fun _ => 0) (0 : Int32).toNatClampNeg (3)) (1 : Int32).toNatClampNeg (6)) (2 : Int32).toNatClampNeg (9)) (3 : Int32).toNatClampNeg (0))))] := hD
  refine va_putF (D := D) (ci := 3) (v := .ref q5) (ty := .array .int) (C := RX3) (T := TX3) (N := 9) hx hb hg inG3 tyX3 tyX3_ok nmX3 hown hK hP hD hS 0 rfl rfl 0 (by decide) (hg _ v_27) (fun _ h9 => h9) rfl hin rfl (by decide +kernel) rfl rfl (Nat.le_of_ble_eq_true rfl) dX3_init_26 (fun H locs hP hD hS => ?_)
  have hP : va_P D vwCl [(h0, .inr (3, [.ref q5, .null, .int 0, .int 0, .int 0, .int 0, .null, .null, .null])), (q5, .inl (cA 0, 4, .inl (upd (upd (upd (upd (fun _ => 0) (0 : Int32).toNatClampNeg (3)) (1 : Int32).toNatClampNeg (6)) (2 : Int32).toNatClampNeg (9)) (3 : Int32).toNatClampNeg (0))))] H := hP
  have hD : va_D A [(h0, .inr (3, [.ref q5, .null, .int 0, .int 0, .int 0, .int 0, .null, .null, .null])), (q5, .inl (cA 0, 4, .inl (upd (upd (upd (upd (fun _ => 0) (0 : Int32).toNatClampNeg (3)) (1 : Int32).toNatClampNeg (6)) (2 : Int32).toNatClampNeg (9)) (3 : Int32).toNatClampNeg (0))))] := hD
  refine lv_aload_n hx hb dX3_init_29 rfl (lv_at hl 0 rfl) ?_
  refine lv_iconst (v := 4) hx hb dX3_init_30 (by decide) ?_
  refine c_newI (cA := cA) (N' := 4) hx hb hg hK hP hD hS hA v_6 (by decide) (by decide +kernel) (Nat.le_of_ble_eq_true rfl) (Nat.le_of_ble_eq_true rfl) (Nat.le_of_ble_eq_true rfl) dX3_init_31 (fun q25 H hP hD hS => ?_)
  have hP : va_P D vwCl [(h0, .inr (3, [.ref q5, .null, .int 0, .int 0, .int 0, .int 0, .null, .null, .null])), (q5, .inl (cA 0, 4, .inl (upd (upd (upd (upd (fun _ => 0) (0 : Int32).toNatClampNeg (3)) (1 : Int32).toNatClampNeg (6)) (2 : Int32).toNatClampNeg (9)) (3 : Int32).toNatClampNeg (0)))), (q25, .inl (cA 0, 4, .inl (fun _ => 0)))] H := hP
  have hD : va_D A [(h0, .inr (3, [.ref q5, .null, .int 0, .int 0, .int 0, .int 0, .null, .null, .null])), (q5, .inl (cA 0, 4, .inl (upd (upd (upd (upd (fun _ => 0) (0 : Int32).toNatClampNeg (3)) (1 : Int32).toNatClampNeg (6)) (2 : Int32).toNatClampNeg (9)) (3 : Int32).toNatClampNeg (0)))), (q25, .inl (cA 0, 4, .inl (fun _ => 0)))] := hD
  refine W.widen (k := 2) (n := 8) (Nat.le_of_ble_eq_true rfl) (Nat.le_of_ble_eq_true rfl) ?_
  refine lv_dup hx hb dX3_init_33 rfl ?_
  refine lv_iconst (v := 0) hx hb dX3_init_34 (by decide) ?_
  refine lv_iconst (v := 5) hx hb dX3_init_35 (by decide) ?_
  refine va_iast hx hb hK hP hD hS 2 0 rfl rfl (by unfold vp_in; decide +kernel) dX3_init_36 (fun H locs hP hD hS => ?_)
  have hP : va_P D vwCl [(h0, .inr (3, [.ref q5, .null, .int 0, .int 0, .int 0, .int 0, .null, .null, .null])), (q5, .inl (cA 0, 4, .inl (upd (upd (upd (upd (fun _ => 0) (0 : Int32).toNatClampNeg (3)) (1 : Int32).toNatClampNeg (6)) (2 : Int32).toNatClampNeg (9)) (3 : Int32).toNatClampNeg (0)))), (q25, .inl (cA 0, 4, .inl (upd (fun _ => 0) (0 : Int32).toNatClampNeg (5))))] H := hP
  have hD : va_D A [(h0, .inr (3, [.ref q5, .null, .int 0, .int 0, .int 0, .int 0, .null, .null, .null])), (q5, .inl (cA 0, 4, .inl (upd (upd (upd (upd (fun _ => 0) (0 : Int32).toNatClampNeg (3)) (1 : Int32).toNatClampNeg (6)) (2 : Int32).toNatClampNeg (9)) (3 : Int32).toNatClampNeg (0)))), (q25, .inl (cA 0, 4, .inl (upd (fun _ => 0) (0 : Int32).toNatClampNeg (5))))] := hD
  refine lv_dup hx hb dX3_init_37 rfl ?_
  refine lv_iconst (v := 1) hx hb dX3_init_38 (by decide) ?_
  refine lv_iconst (v := 5) hx hb dX3_init_39 (by decide) ?_
  refine va_iast hx hb hK hP hD hS 2 0 rfl rfl (by unfold vp_in; decide +kernel) dX3_init_40 (fun H locs hP hD hS => ?_)
  have hP : va_P D vwCl [(h0, .inr (3, [.ref q5, .null, .int 0, .int 0, .int 0, .int 0, .null, .null, .null])), (q5, .inl (cA 0, 4, .inl (upd (upd (upd (upd (fun _ => 0) (0 : Int32).toNatClampNeg (3)) (1 : Int32).toNatClampNeg (6)) (2 : Int32).toNatClampNeg (9)) (3 : Int32).toNatClampNeg (0)))), (q25, .inl (cA 0, 4, .inl (upd (upd (fun _ => 0) (0 : Int32).toNatClampNeg (5)) (1 : Int32).toNatClampNeg (5))))] H := hP
  have hD : va_D A [(h0, .inr (3, [.ref q5, .null, .int 0, .int 0, .int 0, .int 0, .null, .null, .null])), (q5, .inl (cA 0, 4, .inl (upd (upd (upd (upd (fun _ => 0) (0 : Int32).toNatClampNeg (3)) (1 : Int32).toNatClampNeg (6)) (2 : Int32).toNatClampNeg (9)) (3 : Int32).toNatClampNeg (0)))), (q25, .inl (cA 0, 4, .inl (upd (upd (fun _ => 0) (0 : Int32).toNatClampNeg (5)) (1 : Int32).toNatClampNeg (5))))] := hD
  refine lv_dup hx hb dX3_init_41 rfl ?_
  refine lv_iconst (v := 2) hx hb dX3_init_42 (by decide) ?_
  refine lv_iconst (v := 5) hx hb dX3_init_43 (by decide) ?_
  refine va_iast hx hb hK hP hD hS 2 0 rfl rfl (by unfold vp_in; decide +kernel) dX3_init_44 (fun H locs hP hD hS => ?_)
  have hP : va_P D vwCl [(h0, .inr (3, [.ref q5, .null, .int 0, .int 0, .int 0, .int 0, .null, .null, .null])), (q5, .inl (cA 0, 4, .inl (upd (upd (upd (upd (fun _ => 0) (0 : Int32).toNatClampNeg (3)) (1 : Int32).toNatClampNeg (6)) (2 : Int32).toNatClampNeg (9)) (3 : Int32).toNatClampNeg (0)))), (q25, .inl (cA 0, 4, .inl (upd (upd (upd (fun _ => 0) (0 : Int32).toNatClampNeg (5)) (1 : Int32).toNatClampNeg (5)) (2 : Int32).toNatClampNeg (5))))] H := hP
  have hD : va_D A [(h0, .inr (3, [.ref q5, .null, .int 0, .int 0, .int 0, .int 0, .null, .null, .null])), (q5, .inl (cA 0, 4, .inl (upd (upd (upd (upd (fun _ => 0) (0 : Int32).toNatClampNeg (3)) (1 : Int32).toNatClampNeg (6)) (2 : Int32).toNatClampNeg (9)) (3 : Int32).toNatClampNeg (0)))), (q25, .inl (cA 0, 4, .inl (upd (upd (upd (fun _ => 0) (0 : Int32).toNatClampNeg (5)) (1 : Int32).toNatClampNeg (5)) (2 : Int32).toNatClampNeg (5))))] := hD
  refine lv_dup hx hb dX3_init_45 rfl ?_
  refine lv_iconst (v := 3) hx hb dX3_init_46 (by decide) ?_
  refine lv_iconst (v := 0) hx hb dX3_init_47 (by decide) ?_
  refine va_iast hx hb hK hP hD hS 2 0 rfl rfl (by unfold vp_in; decide +kernel) dX3_init_48 (fun H locs hP hD hS => ?_)
  have hP : va_P D vwCl [(h0, .inr (3, [.ref q5, .null, .int 0, .int 0, .int 0, .int 0, .null, .null, .null])), (q5, .inl (cA 0, 4, .inl (upd (upd (upd (upd (fun _ => 0) (0 : Int32).toNatClampNeg (3)) (1 : Int32).toNatClampNeg (6)) (2 : Int32).toNatClampNeg (9)) (3 : Int32).toNatClampNeg (0)))), (q25, .inl (cA 0, 4, .inl (upd (upd (upd (upd (fun _ => 0) (0 : Int32).toNatClampNeg (5)) (1 : Int32).toNatClampNeg (5)) (2 : Int32).toNatClampNeg (5)) (3 : Int32).toNatClampNeg (0))))] H := hP
  have hD : va_D A [(h0, .inr (3, [.ref q5, .null, .int 0, .int 0, .int 0, .int 0, .null, .null, .null])), (q5, .inl (cA 0, 4, .inl (upd (upd (upd (upd (fun _ => 0) (0 : Int32).toNatClampNeg (3)) (1 : Int32).toNatClampNeg (6)) (2 : Int32).toNatClampNeg (9)) (3 : Int32).toNatClampNeg (0)))), (q25, .inl (cA 0, 4, .inl (upd (upd (upd (upd (fun _ => 0) (0 : Int32).toNatClampNeg (5)) (1 : Int32).toNatClampNeg (5)) (2 : Int32).toNatClampNeg (5)) (3 : Int32).toNatClampNeg (0))))] := hD
  refine va_putF (D := D) (ci := 3) (v := .ref q25) (ty := .array .int) (C := RX3) (T := TX3) (N := 9) hx hb hg inG3 tyX3 tyX3_ok nmX3 hown hK hP hD hS 0 rfl rfl 1 (by decide) (hg _ v_28) (fun _ h9 => h9) rfl hin rfl (by decide +kernel) rfl rfl (Nat.le_of_ble_eq_true rfl) dX3_init_49 (fun H locs hP hD hS => ?_)
  have hP : va_P D vwCl [(h0, .inr (3, [.ref q5, .ref q25, .int 0, .int 0, .int 0, .int 0, .null, .null, .null])), (q5, .inl (cA 0, 4, .inl (upd (upd (upd (upd (fun _ => 0) (0 : Int32).toNatClampNeg (3)) (1 : Int32).toNatClampNeg (6)) (2 : Int32).toNatClampNeg (9)) (3 : Int32).toNatClampNeg (0)))), (q25, .inl (cA 0, 4, .inl (upd (upd (upd (upd (fun _ => 0) (0 : Int32).toNatClampNeg (5)) (1 : Int32).toNatClampNeg (5)) (2 : Int32).toNatClampNeg (5)) (3 : Int32).toNatClampNeg (0))))] H := hP
  have hD : va_D A [(h0, .inr (3, [.ref q5, .ref q25, .int 0, .int 0, .int 0, .int 0, .null, .null, .null])), (q5, .inl (cA 0, 4, .inl (upd (upd (upd (upd (fun _ => 0) (0 : Int32).toNatClampNeg (3)) (1 : Int32).toNatClampNeg (6)) (2 : Int32).toNatClampNeg (9)) (3 : Int32).toNatClampNeg (0)))), (q25, .inl (cA 0, 4, .inl (upd (upd (upd (upd (fun _ => 0) (0 : Int32).toNatClampNeg (5)) (1 : Int32).toNatClampNeg (5)) (2 : Int32).toNatClampNeg (5)) (3 : Int32).toNatClampNeg (0))))] := hD
  refine lv_aload_n hx hb dX3_init_52 rfl (lv_at hl 0 rfl) ?_
  refine lv_bipush (v := 10) hx hb dX3_init_53 (by decide +kernel) ?_
  refine va_put (D := D) (ci := 3) (v := .int 10) (ty := .int) (C := RX3) (T := TX3) (N := 9) hx hb hg inG3 tyX3 tyX3_ok nmX3 hown hK hP hD hS 0 rfl rfl 2 (by decide) (hg _ v_29) (fun _ h9 => h9) rfl (by decide +kernel) rfl rfl (Nat.le_of_ble_eq_true rfl) dX3_init_55 (fun H locs hP hD hS => ?_)
  have hP : va_P D vwCl [(h0, .inr (3, [.ref q5, .ref q25, .int 10, .int 0, .int 0, .int 0, .null, .null, .null])), (q5, .inl (cA 0, 4, .inl (upd (upd (upd (upd (fun _ => 0) (0 : Int32).toNatClampNeg (3)) (1 : Int32).toNatClampNeg (6)) (2 : Int32).toNatClampNeg (9)) (3 : Int32).toNatClampNeg (0)))), (q25, .inl (cA 0, 4, .inl (upd (upd (upd (upd (fun _ => 0) (0 : Int32).toNatClampNeg (5)) (1 : Int32).toNatClampNeg (5)) (2 : Int32).toNatClampNeg (5)) (3 : Int32).toNatClampNeg (0))))] H := hP
  have hD : va_D A [(h0, .inr (3, [.ref q5, .ref q25, .int 10, .int 0, .int 0, .int 0, .null, .null, .null])), (q5, .inl (cA 0, 4, .inl (upd (upd (upd (upd (fun _ => 0) (0 : Int32).toNatClampNeg (3)) (1 : Int32).toNatClampNeg (6)) (2 : Int32).toNatClampNeg (9)) (3 : Int32).toNatClampNeg (0)))), (q25, .inl (cA 0, 4, .inl (upd (upd (upd (upd (fun _ => 0) (0 : Int32).toNatClampNeg (5)) (1 : Int32).toNatClampNeg (5)) (2 : Int32).toNatClampNeg (5)) (3 : Int32).toNatClampNeg (0))))] := hD
  refine lv_aload_n hx hb dX3_init_58 rfl (lv_at hl 0 rfl) ?_
  refine lv_iconst (v := 1) hx hb dX3_init_59 (by decide) ?_
  refine va_put (D := D) (ci := 3) (v := .int 1) (ty := .int) (C := RX3) (T := TX3) (N := 9) hx hb hg inG3 tyX3 tyX3_ok nmX3 hown hK hP hD hS 0 rfl rfl 3 (by decide) (hg _ v_30) (fun _ h9 => h9) rfl (by decide +kernel) rfl rfl (Nat.le_of_ble_eq_true rfl) dX3_init_60 (fun H locs hP hD hS => ?_)
  have hP : va_P D vwCl [(h0, .inr (3, [.ref q5, .ref q25, .int 10, .int 1, .int 0, .int 0, .null, .null, .null])), (q5, .inl (cA 0, 4, .inl (upd (upd (upd (upd (fun _ => 0) (0 : Int32).toNatClampNeg (3)) (1 : Int32).toNatClampNeg (6)) (2 : Int32).toNatClampNeg (9)) (3 : Int32).toNatClampNeg (0)))), (q25, .inl (cA 0, 4, .inl (upd (upd (upd (upd (fun _ => 0) (0 : Int32).toNatClampNeg (5)) (1 : Int32).toNatClampNeg (5)) (2 : Int32).toNatClampNeg (5)) (3 : Int32).toNatClampNeg (0))))] H := hP
  have hD : va_D A [(h0, .inr (3, [.ref q5, .ref q25, .int 10, .int 1, .int 0, .int 0, .null, .null, .null])), (q5, .inl (cA 0, 4, .inl (upd (upd (upd (upd (fun _ => 0) (0 : Int32).toNatClampNeg (3)) (1 : Int32).toNatClampNeg (6)) (2 : Int32).toNatClampNeg (9)) (3 : Int32).toNatClampNeg (0)))), (q25, .inl (cA 0, 4, .inl (upd (upd (upd (upd (fun _ => 0) (0 : Int32).toNatClampNeg (5)) (1 : Int32).toNatClampNeg (5)) (2 : Int32).toNatClampNeg (5)) (3 : Int32).toNatClampNeg (0))))] := hD
  refine lv_aload_n hx hb dX3_init_63 rfl (lv_at hl 0 rfl) ?_
  refine lv_iconst (v := 1) hx hb dX3_init_64 (by decide) ?_
  refine va_put (D := D) (ci := 3) (v := .int 1) (ty := .int) (C := RX3) (T := TX3) (N := 9) hx hb hg inG3 tyX3 tyX3_ok nmX3 hown hK hP hD hS 0 rfl rfl 4 (by decide) (hg _ v_31) (fun _ h9 => h9) rfl (by decide +kernel) rfl rfl (Nat.le_of_ble_eq_true rfl) dX3_init_65 (fun H locs hP hD hS => ?_)
  have hP : va_P D vwCl [(h0, .inr (3, [.ref q5, .ref q25, .int 10, .int 1, .int 1, .int 0, .null, .null, .null])), (q5, .inl (cA 0, 4, .inl (upd (upd (upd (upd (fun _ => 0) (0 : Int32).toNatClampNeg (3)) (1 : Int32).toNatClampNeg (6)) (2 : Int32).toNatClampNeg (9)) (3 : Int32).toNatClampNeg (0)))), (q25, .inl (cA 0, 4, .inl (upd (upd (upd (upd (fun _ => 0) (0 : Int32).toNatClampNeg (5)) (1 : Int32).toNatClampNeg (5)) (2 : Int32).toNatClampNeg (5)) (3 : Int32).toNatClampNeg (0))))] H := hP
  have hD : va_D A [(h0, .inr (3, [.ref q5, .ref q25, .int 10, .int 1, .int 1, .int 0, .null, .null, .null])), (q5, .inl (cA 0, 4, .inl (upd (upd (upd (upd (fun _ => 0) (0 : Int32).toNatClampNeg (3)) (1 : Int32).toNatClampNeg (6)) (2 : Int32).toNatClampNeg (9)) (3 : Int32).toNatClampNeg (0)))), (q25, .inl (cA 0, 4, .inl (upd (upd (upd (upd (fun _ => 0) (0 : Int32).toNatClampNeg (5)) (1 : Int32).toNatClampNeg (5)) (2 : Int32).toNatClampNeg (5)) (3 : Int32).toNatClampNeg (0))))] := hD
  refine lv_aload_n hx hb dX3_init_68 rfl (lv_at hl 0 rfl) ?_
  refine lv_iconst (v := 0) hx hb dX3_init_69 (by decide) ?_
  refine va_put (D := D) (ci := 3) (v := .int 0) (ty := .int) (C := RX3) (T := TX3) (N := 9) hx hb hg inG3 tyX3 tyX3_ok nmX3 hown hK hP hD hS 0 rfl rfl 5 (by decide) (hg _ v_32) (fun _ h9 => h9) rfl (by decide +kernel) rfl rfl (Nat.le_of_ble_eq_true rfl) dX3_init_70 (fun H locs hP hD hS => ?_)
  have hP : va_P D vwCl [(h0, .inr (3, [.ref q5, .ref q25, .int 10, .int 1, .int 1, .int 0, .null, .null, .null])), (q5, .inl (cA 0, 4, .inl (upd (upd (upd (upd (fun _ => 0) (0 : Int32).toNatClampNeg (3)) (1 : Int32).toNatClampNeg (6)) (2 : Int32).toNatClampNeg (9)) (3 : Int32).toNatClampNeg (0)))), (q25, .inl (cA 0, 4, .inl (upd (upd (upd (upd (fun _ => 0) (0 : Int32).toNatClampNeg (5)) (1 : Int32).toNatClampNeg (5)) (2 : Int32).toNatClampNeg (5)) (3 : Int32).toNatClampNeg (0))))] H := hP
  have hD : va_D A [(h0, .inr (3, [.ref q5, .ref q25, .int 10, .int 1, .int 1, .int 0, .null, .null, .null])), (q5, .inl (cA 0, 4, .inl (upd (upd (upd (upd (fun _ => 0) (0 : Int32).toNatClampNeg (3)) (1 : Int32).toNatClampNeg (6)) (2 : Int32).toNatClampNeg (9)) (3 : Int32).toNatClampNeg (0)))), (q25, .inl (cA 0, 4, .inl (upd (upd (upd (upd (fun _ => 0) (0 : Int32).toNatClampNeg (5)) (1 : Int32).toNatClampNeg (5)) (2 : Int32).toNatClampNeg (5)) (3 : Int32).toNatClampNeg (0))))] := hD
  refine lv_aload_n hx hb dX3_init_73 rfl (lv_at hl 0 rfl) ?_
  refine lv_bipush (v := 7) hx hb dX3_init_74 (by decide +kernel) ?_
  refine c_newI (cA := cA) (N' := 7) hx hb hg hK hP hD hS hA v_6 (by decide) (by decide +kernel) (Nat.le_of_ble_eq_true rfl) (Nat.le_of_ble_eq_true rfl) (Nat.le_of_ble_eq_true rfl) dX3_init_76 (fun q57 H hP hD hS => ?_)
  have hP : va_P D vwCl [(h0, .inr (3, [.ref q5, .ref q25, .int 10, .int 1, .int 1, .int 0, .null, .null, .null])), (q5, .inl (cA 0, 4, .inl (upd (upd (upd (upd (fun _ => 0) (0 : Int32).toNatClampNeg (3)) (1 : Int32).toNatClampNeg (6)) (2 : Int32).toNatClampNeg (9)) (3 : Int32).toNatClampNeg (0)))), (q25, .inl (cA 0, 4, .inl (upd (upd (upd (upd (fun _ => 0) (0 : Int32).toNatClampNeg (5)) (1 : Int32).toNatClampNeg (5)) (2 : Int32).toNatClampNeg (5)) (3 : Int32).toNatClampNeg (0)))), (q57, .inl (cA 0, 7, .inl (fun _ => 0)))] H := hP
  have hD : va_D A [(h0, .inr (3, [.ref q5, .ref q25, .int 10, .int 1, .int 1, .int 0, .null, .null, .null])), (q5, .inl (cA 0, 4, .inl (upd (upd (upd (upd (fun _ => 0) (0 : Int32).toNatClampNeg (3)) (1 : Int32).toNatClampNeg (6)) (2 : Int32).toNatClampNeg (9)) (3 : Int32).toNatClampNeg (0)))), (q25, .inl (cA 0, 4, .inl (upd (upd (upd (upd (fun _ => 0) (0 : Int32).toNatClampNeg (5)) (1 : Int32).toNatClampNeg (5)) (2 : Int32).toNatClampNeg (5)) (3 : Int32).toNatClampNeg (0)))), (q57, .inl (cA 0, 7, .inl (fun _ => 0)))] := hD
  refine W.widen (k := 3) (n := 15) (Nat.le_of_ble_eq_true rfl) (Nat.le_of_ble_eq_true rfl) ?_
  refine va_putF (D := D) (ci := 3) (v := .ref q57) (ty := .array .int) (C := RX3) (T := TX3) (N := 9) hx hb hg inG3 tyX3 tyX3_ok nmX3 hown hK hP hD hS 0 rfl rfl 6 (by decide) (hg _ v_33) (fun _ h9 => h9) rfl hin rfl (by decide +kernel) rfl rfl (Nat.le_of_ble_eq_true rfl) dX3_init_78 (fun H locs hP hD hS => ?_)
  have hP : va_P D vwCl [(h0, .inr (3, [.ref q5, .ref q25, .int 10, .int 1, .int 1, .int 0, .ref q57, .null, .null])), (q5, .inl (cA 0, 4, .inl (upd (upd (upd (upd (fun _ => 0) (0 : Int32).toNatClampNeg (3)) (1 : Int32).toNatClampNeg (6)) (2 : Int32).toNatClampNeg (9)) (3 : Int32).toNatClampNeg (0)))), (q25, .inl (cA 0, 4, .inl (upd (upd (upd (upd (fun _ => 0) (0 : Int32).toNatClampNeg (5)) (1 : Int32).toNatClampNeg (5)) (2 : Int32).toNatClampNeg (5)) (3 : Int32).toNatClampNeg (0)))), (q57, .inl (cA 0, 7, .inl (fun _ => 0)))] H := hP
  have hD : va_D A [(h0, .inr (3, [.ref q5, .ref q25, .int 10, .int 1, .int 1, .int 0, .ref q57, .null, .null])), (q5, .inl (cA 0, 4, .inl (upd (upd (upd (upd (fun _ => 0) (0 : Int32).toNatClampNeg (3)) (1 : Int32).toNatClampNeg (6)) (2 : Int32).toNatClampNeg (9)) (3 : Int32).toNatClampNeg (0)))), (q25, .inl (cA 0, 4, .inl (upd (upd (upd (upd (fun _ => 0) (0 : Int32).toNatClampNeg (5)) (1 : Int32).toNatClampNeg (5)) (2 : Int32).toNatClampNeg (5)) (3 : Int32).toNatClampNeg (0)))), (q57, .inl (cA 0, 7, .inl (fun _ => 0)))] := hD
  refine lv_aload_n hx hb dX3_init_81 rfl (lv_at hl 0 rfl) ?_
  refine lv_bipush (v := 7) hx hb dX3_init_82 (by decide +kernel) ?_
  refine c_newI (cA := cA) (N' := 7) hx hb hg hK hP hD hS hA v_6 (by decide) (by decide +kernel) (Nat.le_of_ble_eq_true rfl) (Nat.le_of_ble_eq_true rfl) (Nat.le_of_ble_eq_true rfl) dX3_init_84 (fun q61 H hP hD hS => ?_)
  have hP : va_P D vwCl [(h0, .inr (3, [.ref q5, .ref q25, .int 10, .int 1, .int 1, .int 0, .ref q57, .null, .null])), (q5, .inl (cA 0, 4, .inl (upd (upd (upd (upd (fun _ => 0) (0 : Int32).toNatClampNeg (3)) (1 : Int32).toNatClampNeg (6)) (2 : Int32).toNatClampNeg (9)) (3 : Int32).toNatClampNeg (0)))), (q25, .inl (cA 0, 4, .inl (upd (upd (upd (upd (fun _ => 0) (0 : Int32).toNatClampNeg (5)) (1 : Int32).toNatClampNeg (5)) (2 : Int32).toNatClampNeg (5)) (3 : Int32).toNatClampNeg (0)))), (q57, .inl (cA 0, 7, .inl (fun _ => 0))), (q61, .inl (cA 0, 7, .inl (fun _ => 0)))] H := hP
  have hD : va_D A [(h0, .inr (3, [.ref q5, .ref q25, .int 10, .int 1, .int 1, .int 0, .ref q57, .null, .null])), (q5, .inl (cA 0, 4, .inl (upd (upd (upd (upd (fun _ => 0) (0 : Int32).toNatClampNeg (3)) (1 : Int32).toNatClampNeg (6)) (2 : Int32).toNatClampNeg (9)) (3 : Int32).toNatClampNeg (0)))), (q25, .inl (cA 0, 4, .inl (upd (upd (upd (upd (fun _ => 0) (0 : Int32).toNatClampNeg (5)) (1 : Int32).toNatClampNeg (5)) (2 : Int32).toNatClampNeg (5)) (3 : Int32).toNatClampNeg (0)))), (q57, .inl (cA 0, 7, .inl (fun _ => 0))), (q61, .inl (cA 0, 7, .inl (fun _ => 0)))] := hD
  refine W.widen (k := 4) (n := 22) (Nat.le_of_ble_eq_true rfl) (Nat.le_of_ble_eq_true rfl) ?_
  refine va_putF (D := D) (ci := 3) (v := .ref q61) (ty := .array .int) (C := RX3) (T := TX3) (N := 9) hx hb hg inG3 tyX3 tyX3_ok nmX3 hown hK hP hD hS 0 rfl rfl 7 (by decide) (hg _ v_34) (fun _ h9 => h9) rfl hin rfl (by decide +kernel) rfl rfl (Nat.le_of_ble_eq_true rfl) dX3_init_86 (fun H locs hP hD hS => ?_)
  have hP : va_P D vwCl [(h0, .inr (3, [.ref q5, .ref q25, .int 10, .int 1, .int 1, .int 0, .ref q57, .ref q61, .null])), (q5, .inl (cA 0, 4, .inl (upd (upd (upd (upd (fun _ => 0) (0 : Int32).toNatClampNeg (3)) (1 : Int32).toNatClampNeg (6)) (2 : Int32).toNatClampNeg (9)) (3 : Int32).toNatClampNeg (0)))), (q25, .inl (cA 0, 4, .inl (upd (upd (upd (upd (fun _ => 0) (0 : Int32).toNatClampNeg (5)) (1 : Int32).toNatClampNeg (5)) (2 : Int32).toNatClampNeg (5)) (3 : Int32).toNatClampNeg (0)))), (q57, .inl (cA 0, 7, .inl (fun _ => 0))), (q61, .inl (cA 0, 7, .inl (fun _ => 0)))] H := hP
  have hD : va_D A [(h0, .inr (3, [.ref q5, .ref q25, .int 10, .int 1, .int 1, .int 0, .ref q57, .ref q61, .null])), (q5, .inl (cA 0, 4, .inl (upd (upd (upd (upd (fun _ => 0) (0 : Int32).toNatClampNeg (3)) (1 : Int32).toNatClampNeg (6)) (2 : Int32).toNatClampNeg (9)) (3 : Int32).toNatClampNeg (0)))), (q25, .inl (cA 0, 4, .inl (upd (upd (upd (upd (fun _ => 0) (0 : Int32).toNatClampNeg (5)) (1 : Int32).toNatClampNeg (5)) (2 : Int32).toNatClampNeg (5)) (3 : Int32).toNatClampNeg (0)))), (q57, .inl (cA 0, 7, .inl (fun _ => 0))), (q61, .inl (cA 0, 7, .inl (fun _ => 0)))] := hD
  refine lv_aload_n hx hb dX3_init_89 rfl (lv_at hl 0 rfl) ?_
  refine lv_bipush (v := 7) hx hb dX3_init_90 (by decide +kernel) ?_
  refine c_newI (cA := cA) (N' := 7) hx hb hg hK hP hD hS hA v_6 (by decide) (by decide +kernel) (Nat.le_of_ble_eq_true rfl) (Nat.le_of_ble_eq_true rfl) (Nat.le_of_ble_eq_true rfl) dX3_init_92 (fun q65 H hP hD hS => ?_)
  have hP : va_P D vwCl [(h0, .inr (3, [.ref q5, .ref q25, .int 10, .int 1, .int 1, .int 0, .ref q57, .ref q61, .null])), (q5, .inl (cA 0, 4, .inl (upd (upd (upd (upd (fun _ => 0) (0 : Int32).toNatClampNeg (3)) (1 : Int32).toNatClampNeg (6)) (2 : Int32).toNatClampNeg (9)) (3 : Int32).toNatClampNeg (0)))), (q25, .inl (cA 0, 4, .inl (upd (upd (upd (upd (fun _ => 0) (0 : Int32).toNatClampNeg (5)) (1 : Int32).toNatClampNeg (5)) (2 : Int32).toNatClampNeg (5)) (3 : Int32).toNatClampNeg (0)))), (q57, .inl (cA 0, 7, .inl (fun _ => 0))), (q61, .inl (cA 0, 7, .inl (fun _ => 0))), (q65, .inl (cA 0, 7, .inl (fun _ => 0)))] H := hP
  have hD : va_D A [(h0, .inr (3, [.ref q5, .ref q25, .int 10, .int 1, .int 1, .int 0, .ref q57, .ref q61, .null])), (q5, .inl (cA 0, 4, .inl (upd (upd (upd (upd (fun _ => 0) (0 : Int32).toNatClampNeg (3)) (1 : Int32).toNatClampNeg (6)) (2 : Int32).toNatClampNeg (9)) (3 : Int32).toNatClampNeg (0)))), (q25, .inl (cA 0, 4, .inl (upd (upd (upd (upd (fun _ => 0) (0 : Int32).toNatClampNeg (5)) (1 : Int32).toNatClampNeg (5)) (2 : Int32).toNatClampNeg (5)) (3 : Int32).toNatClampNeg (0)))), (q57, .inl (cA 0, 7, .inl (fun _ => 0))), (q61, .inl (cA 0, 7, .inl (fun _ => 0))), (q65, .inl (cA 0, 7, .inl (fun _ => 0)))] := hD
  refine W.widen (k := 5) (n := 29) (Nat.le_of_ble_eq_true rfl) (Nat.le_of_ble_eq_true rfl) ?_
  refine va_putF (D := D) (ci := 3) (v := .ref q65) (ty := .array .int) (C := RX3) (T := TX3) (N := 9) hx hb hg inG3 tyX3 tyX3_ok nmX3 hown hK hP hD hS 0 rfl rfl 8 (by decide) (hg _ v_35) (fun _ h9 => h9) rfl hin rfl (by decide +kernel) rfl rfl (Nat.le_of_ble_eq_true rfl) dX3_init_94 (fun H locs hP hD hS => ?_)
  have hP : va_P D vwCl [(h0, .inr (3, [.ref q5, .ref q25, .int 10, .int 1, .int 1, .int 0, .ref q57, .ref q61, .ref q65])), (q5, .inl (cA 0, 4, .inl (upd (upd (upd (upd (fun _ => 0) (0 : Int32).toNatClampNeg (3)) (1 : Int32).toNatClampNeg (6)) (2 : Int32).toNatClampNeg (9)) (3 : Int32).toNatClampNeg (0)))), (q25, .inl (cA 0, 4, .inl (upd (upd (upd (upd (fun _ => 0) (0 : Int32).toNatClampNeg (5)) (1 : Int32).toNatClampNeg (5)) (2 : Int32).toNatClampNeg (5)) (3 : Int32).toNatClampNeg (0)))), (q57, .inl (cA 0, 7, .inl (fun _ => 0))), (q61, .inl (cA 0, 7, .inl (fun _ => 0))), (q65, .inl (cA 0, 7, .inl (fun _ => 0)))] H := hP
  have hD : va_D A [(h0, .inr (3, [.ref q5, .ref q25, .int 10, .int 1, .int 1, .int 0, .ref q57, .ref q61, .ref q65])), (q5, .inl (cA 0, 4, .inl (upd (upd (upd (upd (fun _ => 0) (0 : Int32).toNatClampNeg (3)) (1 : Int32).toNatClampNeg (6)) (2 : Int32).toNatClampNeg (9)) (3 : Int32).toNatClampNeg (0)))), (q25, .inl (cA 0, 4, .inl (upd (upd (upd (upd (fun _ => 0) (0 : Int32).toNatClampNeg (5)) (1 : Int32).toNatClampNeg (5)) (2 : Int32).toNatClampNeg (5)) (3 : Int32).toNatClampNeg (0)))), (q57, .inl (cA 0, 7, .inl (fun _ => 0))), (q61, .inl (cA 0, 7, .inl (fun _ => 0))), (q65, .inl (cA 0, 7, .inl (fun _ => 0)))] := hD
  have hP9 : va_P D vwCl (BX3 cA h0 (fun i => ([h0, q5, q25, q57, q61, q65] : List Nat).getD i 0)) H := hP.sub [0, 1, 2, 3, 4, 5] rfl
  have hD9 : va_D A (BX3 cA h0 (fun i => ([h0, q5, q25, q57, q61, q65] : List Nat).getD i 0)) := hD.sub [0, 1, 2, 3, 4, 5] (by decide) rfl
  exact W.vret hx hb hr (fun t ht hW => ⟨⟨(fun i => ([h0, q5, q25, q57, q61, q65] : List Nat).getD i 0), rfl, trivial, by rw [ht]; exact hP9, hD9⟩, hS.F ht⟩) hS.2.2 dX3_init_97
theorem nw_X3 : Cond.methodLinkNest RX4 9 MX3_init.1 "HeatBatches" ∈ nestWs := List.mem_filter.mpr ⟨List.mem_of_getElem? (i := 21) (by decide +kernel), rfl⟩
