/-! A light judgement over the kit's W: the cells of the class and of the reference are 67 cells of known shape; what changes is an int memory. -/
abbrev Mem : Type := Nat → Nat → Int32
abbrev Gp : Type := Launch × va_G × (Nat → Nat) × (Nat → ClassId)
abbrev Mth : Type := MethodName × ByteArray × Nat × Option FieldType × (Gp → State → (Nat → Prop) → Prop)
abbrev Lc : Type := List (Option Value)
abbrev Kt : Type := Lc → List Value → Mem → Prop
abbrev Shp : Type := Nat × Nat × List Nat
/-- nothing there -/
def sh0 : Shp := (99, 0, [])
def shI (n : Nat) : Shp := (0, n, [])
def shZ (n : Nat) : Shp := (1, n, [])
def shShop (b : Nat) : Shp := (7, 0, [b + 3, b + 4, 0, 0, 0, 0, b + 5, b + 6, b + 7])
def shPlan (b : Nat) : Shp := (5, 0, [0, b + 3, b + 4])
def shL : List Shp := [
  (8, 0, [3, 9, 27, 0, 28, 30, 33, 36, 51, 52, 53, 54]),
  shShop 1, shI 4, shI 4, shI 7, shI 7, shI 7,
  shShop 7, shI 4, shI 4, shI 7, shI 7, shI 7,
  shShop 13, shI 4, shI 4, shI 7, shI 7, shI 7,
  shShop 19, shI 4, shI 4, shI 7, shI 7, shI 7,
  (2, 2, [13, 19]), (4, 0, [0, 29]), shI 14,
  shPlan 28, shI 7, shI 7, shPlan 31, shI 7, shI 7, shPlan 34, shI 7, shI 7,
  shPlan 37, shI 7, shI 7, shPlan 40, shI 7, shI 7, shPlan 43, shI 7, shI 7, shPlan 46, shI 7, shI 7,
  (3, 4, [37, 40, 43, 46]), shI 4, shZ 4,
  (6, 0, [1, 0, 55, 56, 0, 57, 58]), shI 128, shI 128, shI 2048, shI 2048,
  (9, 0, [60, 61, 62, 63, 0, 64, 0, 65, 66, 67, 68, 0, 0]), shI 31, shI 62, shZ 2, shI 14, shI 15, shI 15, shI 128, shZ 168960, shI 168960]
def sh (a : Nat) : Shp := shL.getD a sh0
def fval (t : Nat) (x : Int32) : Value := match t with
  | 0 => .int x
  | 1 => if x = 0 then .null else .ref x.toNatClampNeg
  | r + 2 => .ref r
def cv (ad : Nat → Nat) (v : Value) : Value := match v with
  | .ref a => .ref (ad a)
  | v => v
def cellC (G : Gp) (t : Shp) (row : Nat → Int32) : va_E :=
  if t.1 < 2 then .inl (G.2.2.2 t.1, t.2.1, .inl row)
  else if t.1 < 4 then .inl (G.2.2.2 t.1, t.2.1, .inr (.inr (.inr (.inr (fun j => (t.2.2[j]?).map G.2.2.1)))))
  else .inr (t.1 - 4, t.2.2.mapIdx (fun k g => cv G.2.2.1 (fval g (row k))))
def wsOf (G : Gp) (σ : Mem) : va_W := (List.range 67).map (fun a => (G.2.2.1 a, cellC G (sh a) (σ a)))
def tysW (G : Gp) : List (ClassId × FieldType) := [(G.2.2.2 0, .int), (G.2.2.2 1, .boolean), (G.2.2.2 2, .object RX3), (G.2.2.2 3, .object RX1)]
def nestWs : List Cond := tables_1.filter (fun w => match w with | .methodLinkNest _ _ _ _ => true | _ => false)
theorem cv_cat (ad : Nat → Nat) (v : Value) : (cv ad v).category = v.category := by cases v <;> rfl
theorem ws_at (G : Gp) (σ : Mem) {a : Nat} (h : a < 67) : (wsOf G σ)[a]? = some (G.2.2.1 a, cellC G (sh a) (σ a)) := by simp [wsOf, h]
theorem ws_at' {G : Gp} {σ : Mem} {a : Nat} {q : Nat × va_E} (h : (wsOf G σ)[a]? = some q) : a < 67 ∧ q = (G.2.2.1 a, cellC G (sh a) (σ a)) := by
  have hl : a < 67 := by
    have := (List.getElem?_eq_some_iff.mp h).1
    simpa [wsOf] using this
  rw [ws_at G σ hl] at h
  exact ⟨hl, (Option.some.inj h).symm⟩
theorem ws_set {G : Gp} {σ : Mem} {a : Nat} (h : a < 67) {e : va_E} {row : Nat → Int32} (he : cellC G (sh a) row = e) : (wsOf G σ).set a (G.2.2.1 a, e) = wsOf G (va_up σ a row) := by
  apply List.ext_getElem?
  intro i
  by_cases hi : i < 67
  · rw [ws_at _ _ hi, List.getElem?_set]
    by_cases h1 : a = i
    · subst h1
      simp [wsOf, h, va_up, he]
    · rw [if_neg h1, ws_at _ _ hi]
      have h2 : ¬ i = a := fun q => h1 q.symm
      simp [va_up, h2]
  · rw [List.getElem?_eq_none (by simp [wsOf]; omega), List.getElem?_eq_none (by simp [wsOf]; omega)]
theorem sh_lt {a k : Nat} (h : (sh a).1 = k) (hk : k ≠ 99) : a < 67 := by
  rcases Nat.lt_or_ge a 67 with q | q
  · exact q
  · exfalso
    have e : sh a = sh0 := by
      unfold sh
      rw [List.getD_eq_getElem?_getD, List.getElem?_eq_none (by simpa [shL] using q)]
      rfl
    rw [e] at h
    exact hk h.symm
theorem cell_i (G : Gp) {a : Nat} (h : (sh a).1 = 0) (row : Nat → Int32) : cellC G (sh a) row = .inl (G.2.2.2 0, (sh a).2.1, .inl row) := by
  unfold cellC; rw [h]; rfl
theorem cell_z (G : Gp) {a : Nat} (h : (sh a).1 = 1) (row : Nat → Int32) : cellC G (sh a) row = .inl (G.2.2.2 1, (sh a).2.1, .inl row) := by
  unfold cellC; rw [h]; rfl
theorem cell_q (G : Gp) {a k : Nat} (h : (sh a).1 = k) (h2 : ¬ k < 2) (h4 : k < 4) (row : Nat → Int32) : cellC G (sh a) row = .inl (G.2.2.2 k, (sh a).2.1, .inr (.inr (.inr (.inr (fun j => ((sh a).2.2[j]?).map G.2.2.1))))) := by
  unfold cellC; rw [h, if_neg h2, if_pos h4]
theorem cell_o (G : Gp) {a ci : Nat} (h : (sh a).1 = ci + 4) (row : Nat → Int32) : cellC G (sh a) row = .inr (ci, (sh a).2.2.mapIdx (fun k g => cv G.2.2.1 (fval g (row k)))) := by
  unfold cellC; rw [h, if_neg (by omega), if_neg (by omega)]; rfl
/-- the locals -/
def lg : Lc → Nat → Option Value
  | [], _ => none
  | a :: _, 0 => a
  | _ :: l, n + 1 => lg l n
def lset : Lc → Nat → Value → Lc
  | [], _, _ => []
  | _ :: l, 0, v => some v :: l
  | a :: l, n + 1, v => a :: lset l n v
def inB : Lc → Nat → Prop
  | [], _ => False
  | _ :: _, 0 => True
  | _ :: l, n + 1 => inB l n
theorem inB_lt : ∀ (l : Lc) (i : Nat), inB l i → i < l.length
  | [], _, h => h.elim
  | _ :: _, 0, _ => by simp
  | _ :: l, n + 1, h => by have := inB_lt l n h; simp; omega
theorem lset_len : ∀ (l : Lc) (i : Nat) (v : Value), (lset l i v).length = l.length
  | [], _, _ => rfl
  | _ :: _, 0, _ => rfl
  | _ :: l, n + 1, v => by simp [lset, lset_len l n v]
theorem lg_lset : ∀ (l : Lc) (i j : Nat) (v w : Value), lg (lset l i v) j = some w → (j = i ∧ w = v) ∨ (j ≠ i ∧ lg l j = some w)
  | [], _, _, _, _, h => by simp [lset, lg] at h
  | _ :: _, 0, 0, _, _, h => by simp [lset, lg] at h; exact Or.inl ⟨rfl, h.symm⟩
  | _ :: _, 0, _ + 1, _, _, h => Or.inr ⟨by omega, h⟩
  | _ :: _, _ + 1, 0, _, _, h => Or.inr ⟨by omega, h⟩
  | _ :: l, i + 1, j + 1, v, w, h => by
    rcases lg_lset l i j v w h with ⟨h1, h2⟩ | ⟨h1, h2⟩
    · exact Or.inl ⟨by omega, h2⟩
    · exact Or.inr ⟨by omega, h2⟩
theorem lg_lt : ∀ (l : Lc) (i : Nat) (v : Value), lg l i = some v → i < l.length
  | [], _, _, h => by simp [lg] at h
  | _ :: _, 0, _, _ => by simp
  | _ :: l, n + 1, v, h => by have := lg_lt l n v h; simp; omega
def Lr (ad : Nat → Nat) (ls : Lc) (sl : Array Slot) (nL : Nat) : Prop := sl.size = nL ∧ lv_wf sl ∧ ls.length = nL ∧ ∀ i v, lg ls i = some v → v.category = 1 ∧ sl[i]? = some (.val (cv ad v))
def lpr (ad : Nat → Nat) (ls : Lc) : List (Nat × Value) := (List.range ls.length).filterMap (fun j => (lg ls j).map (fun v => (j, cv ad v)))
theorem lpr_mem {ad : Nat → Nat} {ls : Lc} {i : Nat} {v : Value} (h : lg ls i = some v) : (i, cv ad v) ∈ lpr ad ls :=
  List.mem_filterMap.mpr ⟨i, List.mem_range.mpr (lg_lt ls i v h), by rw [h]; rfl⟩
theorem Lr.has {ad : Nat → Nat} {ls : Lc} {sl : Array Slot} {nL : Nat} (h : Lr ad ls sl nL) : lv_has sl nL (lpr ad ls) := by
  refine ⟨h.1, h.2.1, fun q hq => ?_⟩
  obtain ⟨j, -, hj⟩ := List.mem_filterMap.mp hq
  cases hg : lg ls j with
  | none => rw [hg] at hj; cases hj
  | some v => rw [hg] at hj; cases hj; exact (h.2.2.2 j v hg).2
theorem Lr.set {ad : Nat → Nat} {ls : Lc} {sl sl' : Array Slot} {nL i : Nat} {v w : Value} (h : Lr ad ls sl nL) (hv : v.category = 1) (hw : cv ad v = w)
    (h' : lv_has sl' nL ((i, w) :: (lpr ad ls).filter (fun q => !(q.1 == i) && !(q.1 + 1 == i && q.2.category == 2)))) : Lr ad (lset ls i v) sl' nL := by
  refine ⟨h'.1, h'.2.1, (lset_len ls i v).trans h.2.2.1, fun j x hj => ?_⟩
  rcases lg_lset ls i j v x hj with ⟨h1, h2⟩ | ⟨h1, h2⟩
  · subst h1; subst h2
    exact ⟨hv, by rw [hw]; exact h'.2.2 (j, w) List.mem_cons_self⟩
  · obtain ⟨c1, -⟩ := h.2.2.2 j x h2
    refine ⟨c1, h'.2.2 (j, cv ad x) (List.mem_cons_of_mem _ (List.mem_filter.mpr ⟨lpr_mem h2, ?_⟩))⟩
    simp [h1, cv_cat, c1]
/-- the context of a method's body -/
def Ctx (G : Gp) (M : Mth) (d : Nat) (p : Program) (R : Room) (s : State) (m : MethodId) (args : Array Value) (c : Code) (cells slots : Nat) (A : Nat → Prop) : Prop :=
  p.tables.exec = Jvm.exec ∧ c.code = M.2.1 ∧ c.maxLocals = M.2.2.1 ∧ s.vm.findClass M.1.cls = some m.cls ∧ (∀ w ∈ gtbl, w.before args s = true) ∧ (∀ w ∈ nestWs, va_Nw w s) ∧ va_K G.2.1 vwCl (tysW G) s ∧
  (d ≤ R.frames ∧ 60 * d ≤ R.locals ∧ cells ≤ R.cells ∧ slots ≤ R.slots) ∧ (∀ a, a < 67 → A (G.2.2.1 a)) ∧ (∀ i j, i < 67 → j < 67 → G.2.2.1 i = G.2.2.1 j → i = j) ∧ M.2.2.2.2 G s A
theorem ws_D {G : Gp} {A : Nat → Prop} (hA : ∀ a, a < 67 → A (G.2.2.1 a)) (hi : ∀ i j, i < 67 → j < 67 → G.2.2.1 i = G.2.2.1 j → i = j) (σ : Mem) : va_D A (wsOf G σ) := by
  refine ⟨fun i j x y hx hy hxy => ?_, fun k q hq => ?_⟩
  · obtain ⟨h1, rfl⟩ := ws_at' hx
    obtain ⟨h2, rfl⟩ := ws_at' hy
    exact hi i j h1 h2 hxy
  · obtain ⟨h1, rfl⟩ := ws_at' hq
    exact hA k h1
/-- what a return instruction hands back -/
def RetOk (M : Mth) (pc : Nat) (v : Option Value) : Prop := (v = none ∧ M.2.2.2.1 = none ∧ decode M.2.1 pc = .ok (.return_, 1)) ∨ ∃ x : Int32, v = some (.int x) ∧ decode M.2.1 pc = .ok (.ireturn, 1) ∧ (M.2.2.2.1 = some .int ∨ (M.2.2.2.1 = some .boolean ∧ (x = 0 ∨ x = 1)))
/-- from here, with these locals, stack and memory, the method comes to its end with Q -/
def E (G : Gp) (M : Mth) (d pc : Nat) (ls : Lc) (stk : List Value) (σ : Mem) (Q : Option Value → Mem → Prop) : Prop :=
  ∀ (p : Program) (e : Env) (R : Room) (s : State) (m : MethodId) (args : Array Value) (below : List Frame) (meth : Method) (c : Code) (cells slots : Nat) (A : Nat → Prop) (Qf : State → Prop),
    Ctx G M d p R s m args c cells slots A →
    (∀ (v : Option Value) (τ : Mem) (H : Heap) (locs : List Loc) (pc' : Nat) (sl : Array Slot), Q v τ → va_P G.2.1 vwCl (wsOf G τ) H → va_S A s.heap H locs → RetOk M pc' v → W p G.1 e R s m args below meth c H locs cells slots Qf (F0 m pc' sl v.toList)) →
    ∀ (H : Heap) (locs : List Loc) (sl : Array Slot), va_P G.2.1 vwCl (wsOf G σ) H → va_S A s.heap H locs → Lr G.2.2.1 ls sl M.2.2.1 →
    W p G.1 e R s m args below meth c H locs cells slots Qf (F0 m pc sl (stk.map (cv G.2.2.1)))
/-- where K holds the method comes to its end with Q -/
def Ent (G : Gp) (M : Mth) (d pc : Nat) (Q : Option Value → Mem → Prop) (K : Kt) : Prop := ∀ ls stk σ, K ls stk σ → E G M d pc ls stk σ Q
theorem Ent.here {G : Gp} {M : Mth} {d pc : Nat} {Q : Option Value → Mem → Prop} : Ent G M d pc Q (fun ls stk σ => E G M d pc ls stk σ Q) := fun _ _ _ h => h
theorem E.mono {G : Gp} {M : Mth} {d pc : Nat} {ls : Lc} {stk : List Value} {σ : Mem} {Q Q' : Option Value → Mem → Prop} (h : E G M d pc ls stk σ Q) (hq : ∀ v τ, Q v τ → Q' v τ) : E G M d pc ls stk σ Q' :=
  fun p e R s m args below meth c cells slots A Qf C hr H locs sl hP hS hL => h p e R s m args below meth c cells slots A Qf C (fun v τ H locs pc' sl q => hr v τ H locs pc' sl (hq v τ q)) H locs sl hP hS hL
section OPS
variable {G : Gp} {M : Mth} {d pc : Nat} {Q : Option Value → Mem → Prop} {K K2 : Kt} {b : ByteArray}

def o_push (v : Int32) (K : Kt) (ls : Lc) (stk : List Value) (σ : Mem) : Prop := K ls (.int v :: stk) σ
theorem N_iconst (hb : M.2.1 = b) {n : Int} {v : Int32} (hd : decode b pc = .ok (.iconst n, 1)) (hv : Int32.ofInt n = v) (k : Ent G M d (pc + 1) Q K) : Ent G M d pc Q (o_push v K) := by
  intro ls stk σ h
  subst hb
  intro p e R s m args below meth c cells slots A Qf C hr H locs sl hP hS hL
  exact lv_iconst C.1 C.2.1 hd hv (k _ _ _ h p e R s m args below meth c cells slots A Qf C hr H locs sl hP hS hL)
theorem N_bipush (hb : M.2.1 = b) {n : Int} {v : Int32} (hd : decode b pc = .ok (.bipush n, 2)) (hv : (Int8.ofInt n).toInt32 = v) (k : Ent G M d (pc + 2) Q K) : Ent G M d pc Q (o_push v K) := by
  intro ls stk σ h
  subst hb
  intro p e R s m args below meth c cells slots A Qf C hr H locs sl hP hS hL
  exact lv_bipush C.1 C.2.1 hd hv (k _ _ _ h p e R s m args below meth c cells slots A Qf C hr H locs sl hP hS hL)
theorem N_sipush (hb : M.2.1 = b) {n : Int} {v : Int32} (hd : decode b pc = .ok (.sipush n, 3)) (hv : (Int16.ofInt n).toInt32 = v) (k : Ent G M d (pc + 3) Q K) : Ent G M d pc Q (o_push v K) := by
  intro ls stk σ h
  subst hb
  intro p e R s m args below meth c cells slots A Qf C hr H locs sl hP hS hL
  exact lv_sipush C.1 C.2.1 hd hv (k _ _ _ h p e R s m args below meth c cells slots A Qf C hr H locs sl hP hS hL)
theorem N_ldc (hb : M.2.1 = b) {own : String} (ho : M.1.cls = own) {i : Nat} {v : Int32} (hw : Cond.constant own i v ∈ gtbl) (hd : decode b pc = .ok (.ldc i, 2)) (k : Ent G M d (pc + 2) Q K) : Ent G M d pc Q (o_push v K) := by
  intro ls stk σ h
  subst hb
  subst ho
  intro p e R s m args below meth c cells slots A Qf C hr H locs sl hP hS hL
  exact lv_ldc C.1 C.2.1 C.2.2.2.1 (C.2.2.2.2.1 _ hw) hd (k _ _ _ h p e R s m args below meth c cells slots A Qf C hr H locs sl hP hS hL)
theorem N_ldcw (hb : M.2.1 = b) {own : String} (ho : M.1.cls = own) {i : Nat} {v : Int32} (hw : Cond.constant own i v ∈ gtbl) (hd : decode b pc = .ok (.ldc_w i, 3)) (k : Ent G M d (pc + 3) Q K) : Ent G M d pc Q (o_push v K) := by
  intro ls stk σ h
  subst hb
  subst ho
  intro p e R s m args below meth c cells slots A Qf C hr H locs sl hP hS hL
  exact lv_ldcw C.1 C.2.1 C.2.2.2.1 (C.2.2.2.2.1 _ hw) hd (k _ _ _ h p e R s m args below meth c cells slots A Qf C hr H locs sl hP hS hL)
def o_iload (i : Nat) (K : Kt) (ls : Lc) (stk : List Value) (σ : Mem) : Prop := match lg ls i with
  | some (.int v) => K ls (.int v :: stk) σ
  | _ => False
def o_aload (i : Nat) (K : Kt) (ls : Lc) (stk : List Value) (σ : Mem) : Prop := match lg ls i with
  | some (.ref v) => K ls (.ref v :: stk) σ
  | _ => False

theorem N_iload_n (hb : M.2.1 = b) {n : Fin 4} {i : Nat} (hd : decode b pc = .ok (.iload_n n, 1)) (hi : (n : Nat) = i) (k : Ent G M d (pc + 1) Q K) : Ent G M d pc Q (o_iload i K) := by
  intro ls stk σ h
  subst hb
  unfold o_iload at h
  split at h
  · rename_i v hg
    intro p e R s m args below meth c cells slots A Qf C hr H locs sl hP hS hL
    exact lv_iload_n C.1 C.2.1 hd hi (hL.2.2.2 _ _ hg).2 (k _ _ _ h p e R s m args below meth c cells slots A Qf C hr H locs sl hP hS hL)
  · exact h.elim
theorem N_iload (hb : M.2.1 = b) {i : Nat} (hd : decode b pc = .ok (.iload i, 2)) (k : Ent G M d (pc + 2) Q K) : Ent G M d pc Q (o_iload i K) := by
  intro ls stk σ h
  subst hb
  unfold o_iload at h
  split at h
  · rename_i v hg
    intro p e R s m args below meth c cells slots A Qf C hr H locs sl hP hS hL
    exact lv_iload C.1 C.2.1 hd (hL.2.2.2 _ _ hg).2 (k _ _ _ h p e R s m args below meth c cells slots A Qf C hr H locs sl hP hS hL)
  · exact h.elim

theorem N_aload_n (hb : M.2.1 = b) {n : Fin 4} {i : Nat} (hd : decode b pc = .ok (.aload_n n, 1)) (hi : (n : Nat) = i) (k : Ent G M d (pc + 1) Q K) : Ent G M d pc Q (o_aload i K) := by
  intro ls stk σ h
  subst hb
  unfold o_aload at h
  split at h
  · rename_i v hg
    intro p e R s m args below meth c cells slots A Qf C hr H locs sl hP hS hL
    exact lv_aload_n C.1 C.2.1 hd hi (hL.2.2.2 _ _ hg).2 (k _ _ _ h p e R s m args below meth c cells slots A Qf C hr H locs sl hP hS hL)
  · exact h.elim
theorem N_aload (hb : M.2.1 = b) {i : Nat} (hd : decode b pc = .ok (.aload i, 2)) (k : Ent G M d (pc + 2) Q K) : Ent G M d pc Q (o_aload i K) := by
  intro ls stk σ h
  subst hb
  unfold o_aload at h
  split at h
  · rename_i v hg
    intro p e R s m args below meth c cells slots A Qf C hr H locs sl hP hS hL
    exact lv_aload C.1 C.2.1 hd (hL.2.2.2 _ _ hg).2 (k _ _ _ h p e R s m args below meth c cells slots A Qf C hr H locs sl hP hS hL)
  · exact h.elim

def o_istore (i : Nat) (K : Kt) (ls : Lc) (stk : List Value) (σ : Mem) : Prop := match stk with
  | .int v :: r => inB ls i ∧ K (lset ls i (.int v)) r σ
  | _ => False
def o_iinc (i : Nat) (n : Int32) (K : Kt) (ls : Lc) (stk : List Value) (σ : Mem) : Prop := match lg ls i with
  | some (.int v) => K (lset ls i (.int (v + n))) stk σ
  | _ => False

theorem N_istore_n (hb : M.2.1 = b) {n : Fin 4} {i : Nat} (hd : decode b pc = .ok (.istore_n n, 1)) (hi : (n : Nat) = i) (k : Ent G M d (pc + 1) Q K) : Ent G M d pc Q (o_istore i K) := by
  intro ls stk σ h
  subst hb
  unfold o_istore at h
  split at h
  · rename_i v r
    obtain ⟨hi0, h⟩ := h
    intro p e R s m args below meth c cells slots A Qf C hr H locs sl hP hS hL
    exact lv_istore_n C.1 C.2.1 hd hi hL.has (by rw [← hL.2.2.1]; exact inB_lt _ _ hi0) rfl (fun sl' h' => k _ _ _ h p e R s m args below meth c cells slots A Qf C hr H locs sl' hP hS (hL.set (v := .int v) rfl rfl h'))
  · exact h.elim

theorem N_istore (hb : M.2.1 = b) {i : Nat} (hd : decode b pc = .ok (.istore i, 2)) (k : Ent G M d (pc + 2) Q K) : Ent G M d pc Q (o_istore i K) := by
  intro ls stk σ h
  subst hb
  unfold o_istore at h
  split at h
  · rename_i v r
    obtain ⟨hi0, h⟩ := h
    intro p e R s m args below meth c cells slots A Qf C hr H locs sl hP hS hL
    exact lv_istore C.1 C.2.1 hd hL.has (by rw [← hL.2.2.1]; exact inB_lt _ _ hi0) rfl (fun sl' h' => k _ _ _ h p e R s m args below meth c cells slots A Qf C hr H locs sl' hP hS (hL.set (v := .int v) rfl rfl h'))
  · exact h.elim

theorem N_iinc (hb : M.2.1 = b) {i : Nat} {n : Int} {x : Int32} (hd : decode b pc = .ok (.iinc i n, 3)) (hx : Int32.ofInt n = x) (k : Ent G M d (pc + 3) Q K) : Ent G M d pc Q (o_iinc i x K) := by
  intro ls stk σ h
  subst hb
  subst hx
  unfold o_iinc at h
  split at h
  · rename_i v hg
    intro p e R s m args below meth c cells slots A Qf C hr H locs sl hP hS hL
    obtain ⟨kk, hkk⟩ := List.getElem?_of_mem (lpr_mem (ad := G.2.2.1) hg)
    exact lv_iinc (v := v + Int32.ofInt n) C.1 C.2.1 hd hL.has hkk rfl (by rw [← hL.2.2.1]; exact lg_lt _ _ _ hg) rfl (fun sl' h' => k _ _ _ h p e R s m args below meth c cells slots A Qf C hr H locs sl' hP hS (hL.set (v := .int (v + Int32.ofInt n)) rfl rfl h'))
  · exact h.elim

def o_iadd (K : Kt) (ls : Lc) (stk : List Value) (σ : Mem) : Prop := match stk with
  | .int y :: .int x :: r => K ls (.int (x + y) :: r) σ
  | _ => False
theorem N_iadd (hb : M.2.1 = b) (hd : decode b pc = .ok (.iadd, 1)) (k : Ent G M d (pc + 1) Q K) : Ent G M d pc Q (o_iadd K) := by
  intro ls stk σ h
  subst hb
  unfold o_iadd at h
  split at h
  · rename_i y x r
    intro p e R s m args below meth c cells slots A Qf C hr H locs sl hP hS hL
    exact lv_iadd C.1 C.2.1 hd  (k _ _ _ h p e R s m args below meth c cells slots A Qf C hr H locs sl hP hS hL)
  · exact h.elim

def o_isub (K : Kt) (ls : Lc) (stk : List Value) (σ : Mem) : Prop := match stk with
  | .int y :: .int x :: r => K ls (.int (x - y) :: r) σ
  | _ => False
theorem N_isub (hb : M.2.1 = b) (hd : decode b pc = .ok (.isub, 1)) (k : Ent G M d (pc + 1) Q K) : Ent G M d pc Q (o_isub K) := by
  intro ls stk σ h
  subst hb
  unfold o_isub at h
  split at h
  · rename_i y x r
    intro p e R s m args below meth c cells slots A Qf C hr H locs sl hP hS hL
    exact lv_isub C.1 C.2.1 hd  (k _ _ _ h p e R s m args below meth c cells slots A Qf C hr H locs sl hP hS hL)
  · exact h.elim

def o_imul (K : Kt) (ls : Lc) (stk : List Value) (σ : Mem) : Prop := match stk with
  | .int y :: .int x :: r => K ls (.int (x * y) :: r) σ
  | _ => False
theorem N_imul (hb : M.2.1 = b) (hd : decode b pc = .ok (.imul, 1)) (k : Ent G M d (pc + 1) Q K) : Ent G M d pc Q (o_imul K) := by
  intro ls stk σ h
  subst hb
  unfold o_imul at h
  split at h
  · rename_i y x r
    intro p e R s m args below meth c cells slots A Qf C hr H locs sl hP hS hL
    exact lv_imul C.1 C.2.1 hd  (k _ _ _ h p e R s m args below meth c cells slots A Qf C hr H locs sl hP hS hL)
  · exact h.elim

def o_iand (K : Kt) (ls : Lc) (stk : List Value) (σ : Mem) : Prop := match stk with
  | .int y :: .int x :: r => K ls (.int (x &&& y) :: r) σ
  | _ => False
theorem N_iand (hb : M.2.1 = b) (hd : decode b pc = .ok (.iand, 1)) (k : Ent G M d (pc + 1) Q K) : Ent G M d pc Q (o_iand K) := by
  intro ls stk σ h
  subst hb
  unfold o_iand at h
  split at h
  · rename_i y x r
    intro p e R s m args below meth c cells slots A Qf C hr H locs sl hP hS hL
    exact lv_iand C.1 C.2.1 hd  (k _ _ _ h p e R s m args below meth c cells slots A Qf C hr H locs sl hP hS hL)
  · exact h.elim

def o_ior (K : Kt) (ls : Lc) (stk : List Value) (σ : Mem) : Prop := match stk with
  | .int y :: .int x :: r => K ls (.int (x ||| y) :: r) σ
  | _ => False
theorem N_ior (hb : M.2.1 = b) (hd : decode b pc = .ok (.ior, 1)) (k : Ent G M d (pc + 1) Q K) : Ent G M d pc Q (o_ior K) := by
  intro ls stk σ h
  subst hb
  unfold o_ior at h
  split at h
  · rename_i y x r
    intro p e R s m args below meth c cells slots A Qf C hr H locs sl hP hS hL
    exact lv_ior C.1 C.2.1 hd  (k _ _ _ h p e R s m args below meth c cells slots A Qf C hr H locs sl hP hS hL)
  · exact h.elim

def o_ixor (K : Kt) (ls : Lc) (stk : List Value) (σ : Mem) : Prop := match stk with
  | .int y :: .int x :: r => K ls (.int (x ^^^ y) :: r) σ
  | _ => False
theorem N_ixor (hb : M.2.1 = b) (hd : decode b pc = .ok (.ixor, 1)) (k : Ent G M d (pc + 1) Q K) : Ent G M d pc Q (o_ixor K) := by
  intro ls stk σ h
  subst hb
  unfold o_ixor at h
  split at h
  · rename_i y x r
    intro p e R s m args below meth c cells slots A Qf C hr H locs sl hP hS hL
    exact lv_ixor C.1 C.2.1 hd  (k _ _ _ h p e R s m args below meth c cells slots A Qf C hr H locs sl hP hS hL)
  · exact h.elim

def o_ishl (K : Kt) (ls : Lc) (stk : List Value) (σ : Mem) : Prop := match stk with
  | .int y :: .int x :: r => K ls (.int (x <<< (y &&& 31)) :: r) σ
  | _ => False
theorem N_ishl (hb : M.2.1 = b) (hd : decode b pc = .ok (.ishl, 1)) (k : Ent G M d (pc + 1) Q K) : Ent G M d pc Q (o_ishl K) := by
  intro ls stk σ h
  subst hb
  unfold o_ishl at h
  split at h
  · rename_i y x r
    intro p e R s m args below meth c cells slots A Qf C hr H locs sl hP hS hL
    exact lv_ishl C.1 C.2.1 hd  (k _ _ _ h p e R s m args below meth c cells slots A Qf C hr H locs sl hP hS hL)
  · exact h.elim

def o_ishr (K : Kt) (ls : Lc) (stk : List Value) (σ : Mem) : Prop := match stk with
  | .int y :: .int x :: r => K ls (.int (x >>> (y &&& 31)) :: r) σ
  | _ => False
theorem N_ishr (hb : M.2.1 = b) (hd : decode b pc = .ok (.ishr, 1)) (k : Ent G M d (pc + 1) Q K) : Ent G M d pc Q (o_ishr K) := by
  intro ls stk σ h
  subst hb
  unfold o_ishr at h
  split at h
  · rename_i y x r
    intro p e R s m args below meth c cells slots A Qf C hr H locs sl hP hS hL
    exact lv_ishr C.1 C.2.1 hd  (k _ _ _ h p e R s m args below meth c cells slots A Qf C hr H locs sl hP hS hL)
  · exact h.elim

def o_idiv (K : Kt) (ls : Lc) (stk : List Value) (σ : Mem) : Prop := match stk with
  | .int y :: .int x :: r => ¬ y = 0 ∧ K ls (.int (x / y) :: r) σ
  | _ => False
theorem N_idiv (hb : M.2.1 = b) (hd : decode b pc = .ok (.idiv, 1)) (k : Ent G M d (pc + 1) Q K) : Ent G M d pc Q (o_idiv K) := by
  intro ls stk σ h
  subst hb
  unfold o_idiv at h
  split at h
  · rename_i y x r
    obtain ⟨hne, h⟩ := h
    intro p e R s m args below meth c cells slots A Qf C hr H locs sl hP hS hL
    exact lv_idiv C.1 C.2.1 hd hne (k _ _ _ h p e R s m args below meth c cells slots A Qf C hr H locs sl hP hS hL)
  · exact h.elim

def o_irem (K : Kt) (ls : Lc) (stk : List Value) (σ : Mem) : Prop := match stk with
  | .int y :: .int x :: r => ¬ y = 0 ∧ K ls (.int (x - x / y * y) :: r) σ
  | _ => False
theorem N_irem (hb : M.2.1 = b) (hd : decode b pc = .ok (.irem, 1)) (k : Ent G M d (pc + 1) Q K) : Ent G M d pc Q (o_irem K) := by
  intro ls stk σ h
  subst hb
  unfold o_irem at h
  split at h
  · rename_i y x r
    obtain ⟨hne, h⟩ := h
    intro p e R s m args below meth c cells slots A Qf C hr H locs sl hP hS hL
    exact lv_irem C.1 C.2.1 hd hne (k _ _ _ h p e R s m args below meth c cells slots A Qf C hr H locs sl hP hS hL)
  · exact h.elim

def o_iushr (K : Kt) (ls : Lc) (stk : List Value) (σ : Mem) : Prop := match stk with
  | .int y :: .int x :: r => K ls (.int ((x.toUInt32 >>> (y.toUInt32 &&& Int32.toUInt32 31)).toInt32) :: r) σ
  | _ => False
theorem N_iushr (hb : M.2.1 = b) (hd : decode b pc = .ok (.iushr, 1)) (k : Ent G M d (pc + 1) Q K) : Ent G M d pc Q (o_iushr K) := by
  intro ls stk σ h
  subst hb
  unfold o_iushr at h
  split at h
  · rename_i y x r
    intro p e R s m args below meth c cells slots A Qf C hr H locs sl hP hS hL
    exact lv_iushr C.1 C.2.1 hd rfl (k _ _ _ h p e R s m args below meth c cells slots A Qf C hr H locs sl hP hS hL)
  · exact h.elim

def o_ineg (K : Kt) (ls : Lc) (stk : List Value) (σ : Mem) : Prop := match stk with
  | .int x :: r => K ls (.int (-x) :: r) σ
  | _ => False
theorem N_ineg (hb : M.2.1 = b) (hd : decode b pc = .ok (.ineg, 1)) (k : Ent G M d (pc + 1) Q K) : Ent G M d pc Q (o_ineg K) := by
  intro ls stk σ h
  subst hb
  unfold o_ineg at h
  split at h
  · rename_i x r
    intro p e R s m args below meth c cells slots A Qf C hr H locs sl hP hS hL
    exact lv_ineg C.1 C.2.1 hd (k _ _ _ h p e R s m args below meth c cells slots A Qf C hr H locs sl hP hS hL)
  · exact h.elim
def o_dup (K : Kt) (ls : Lc) (stk : List Value) (σ : Mem) : Prop := match stk with
  | .int x :: r => K ls (.int x :: .int x :: r) σ
  | .ref x :: r => K ls (.ref x :: .ref x :: r) σ
  | _ => False
theorem N_dup (hb : M.2.1 = b) (hd : decode b pc = .ok (.dup, 1)) (k : Ent G M d (pc + 1) Q K) : Ent G M d pc Q (o_dup K) := by
  intro ls stk σ h
  subst hb
  unfold o_dup at h
  split at h
  · rename_i x r
    intro p e R s m args below meth c cells slots A Qf C hr H locs sl hP hS hL
    exact lv_dup C.1 C.2.1 hd rfl (k _ _ _ h p e R s m args below meth c cells slots A Qf C hr H locs sl hP hS hL)
  · rename_i x r
    intro p e R s m args below meth c cells slots A Qf C hr H locs sl hP hS hL
    exact lv_dup C.1 C.2.1 hd rfl (k _ _ _ h p e R s m args below meth c cells slots A Qf C hr H locs sl hP hS hL)
  · exact h.elim
def o_dup2 (K : Kt) (ls : Lc) (stk : List Value) (σ : Mem) : Prop := match stk with
  | .int x :: .ref y :: r => K ls (.int x :: .ref y :: .int x :: .ref y :: r) σ
  | _ => False
theorem N_dup2 (hb : M.2.1 = b) (hd : decode b pc = .ok (.dup2, 1)) (k : Ent G M d (pc + 1) Q K) : Ent G M d pc Q (o_dup2 K) := by
  intro ls stk σ h
  subst hb
  unfold o_dup2 at h
  split at h
  · rename_i x y r
    intro p e R s m args below meth c cells slots A Qf C hr H locs sl hP hS hL
    exact lv_dup2_11 C.1 C.2.1 hd rfl rfl (k _ _ _ h p e R s m args below meth c cells slots A Qf C hr H locs sl hP hS hL)
  · exact h.elim
def o_pop (K : Kt) (ls : Lc) (stk : List Value) (σ : Mem) : Prop := match stk with
  | .int _ :: r => K ls r σ
  | _ => False
theorem N_pop (hb : M.2.1 = b) (hd : decode b pc = .ok (.pop, 1)) (k : Ent G M d (pc + 1) Q K) : Ent G M d pc Q (o_pop K) := by
  intro ls stk σ h
  subst hb
  unfold o_pop at h
  split at h
  · rename_i x r
    intro p e R s m args below meth c cells slots A Qf C hr H locs sl hP hS hL
    exact lv_pop (va := .int x) C.1 C.2.1 hd rfl (k _ _ _ h p e R s m args below meth c cells slots A Qf C hr H locs sl hP hS hL)
  · exact h.elim
theorem N_goto (hb : M.2.1 = b) {off : Int} {tgt : Nat} (hd : decode b pc = .ok (.goto off, 3)) (ht : (pc : Int) + off = (tgt : Int)) (k : Ent G M d tgt Q K) : Ent G M d pc Q K := by
  intro ls stk σ h
  subst hb
  intro p e R s m args below meth c cells slots A Qf C hr H locs sl hP hS hL
  exact lv_goto C.1 C.2.1 hd ht (k _ _ _ h p e R s m args below meth c cells slots A Qf C hr H locs sl hP hS hL)

def o_if_eq (K K2 : Kt) (ls : Lc) (stk : List Value) (σ : Mem) : Prop := match stk with
  | .int x :: r => (x = 0 → K ls r σ) ∧ (¬ x = 0 → K2 ls r σ)
  | _ => False
theorem N_if_eq (hb : M.2.1 = b) {off : Int} {tgt : Nat} (hd : decode b pc = .ok (.ifCond .eq off, 3)) (ht : (pc : Int) + off = (tgt : Int)) (k : Ent G M d tgt Q K) (k2 : Ent G M d (pc + 3) Q K2) : Ent G M d pc Q (o_if_eq K K2) := by
  intro ls stk σ h
  subst hb
  unfold o_if_eq at h
  split at h
  · rename_i x r
    intro p e R s m args below meth c cells slots A Qf C hr H locs sl hP hS hL
    exact lv_if_eq C.1 C.2.1 hd ht (fun q => k _ _ _ (h.1 q) p e R s m args below meth c cells slots A Qf C hr H locs sl hP hS hL) (fun q => k2 _ _ _ (h.2 q) p e R s m args below meth c cells slots A Qf C hr H locs sl hP hS hL)
  · exact h.elim
def o_icmp_eq (K K2 : Kt) (ls : Lc) (stk : List Value) (σ : Mem) : Prop := match stk with
  | .int y :: .int x :: r => (x = y → K ls r σ) ∧ (¬ x = y → K2 ls r σ)
  | _ => False
theorem N_icmp_eq (hb : M.2.1 = b) {off : Int} {tgt : Nat} (hd : decode b pc = .ok (.if_icmp .eq off, 3)) (ht : (pc : Int) + off = (tgt : Int)) (k : Ent G M d tgt Q K) (k2 : Ent G M d (pc + 3) Q K2) : Ent G M d pc Q (o_icmp_eq K K2) := by
  intro ls stk σ h
  subst hb
  unfold o_icmp_eq at h
  split at h
  · rename_i y x r
    intro p e R s m args below meth c cells slots A Qf C hr H locs sl hP hS hL
    exact lv_icmp_eq C.1 C.2.1 hd ht (fun q => k _ _ _ (h.1 q) p e R s m args below meth c cells slots A Qf C hr H locs sl hP hS hL) (fun q => k2 _ _ _ (h.2 q) p e R s m args below meth c cells slots A Qf C hr H locs sl hP hS hL)
  · exact h.elim

def o_if_ne (K K2 : Kt) (ls : Lc) (stk : List Value) (σ : Mem) : Prop := match stk with
  | .int x :: r => (¬ x = 0 → K ls r σ) ∧ (x = 0 → K2 ls r σ)
  | _ => False
theorem N_if_ne (hb : M.2.1 = b) {off : Int} {tgt : Nat} (hd : decode b pc = .ok (.ifCond .ne off, 3)) (ht : (pc : Int) + off = (tgt : Int)) (k : Ent G M d tgt Q K) (k2 : Ent G M d (pc + 3) Q K2) : Ent G M d pc Q (o_if_ne K K2) := by
  intro ls stk σ h
  subst hb
  unfold o_if_ne at h
  split at h
  · rename_i x r
    intro p e R s m args below meth c cells slots A Qf C hr H locs sl hP hS hL
    exact lv_if_ne C.1 C.2.1 hd ht (fun q => k _ _ _ (h.1 q) p e R s m args below meth c cells slots A Qf C hr H locs sl hP hS hL) (fun q => k2 _ _ _ (h.2 q) p e R s m args below meth c cells slots A Qf C hr H locs sl hP hS hL)
  · exact h.elim
def o_icmp_ne (K K2 : Kt) (ls : Lc) (stk : List Value) (σ : Mem) : Prop := match stk with
  | .int y :: .int x :: r => (¬ x = y → K ls r σ) ∧ (x = y → K2 ls r σ)
  | _ => False
theorem N_icmp_ne (hb : M.2.1 = b) {off : Int} {tgt : Nat} (hd : decode b pc = .ok (.if_icmp .ne off, 3)) (ht : (pc : Int) + off = (tgt : Int)) (k : Ent G M d tgt Q K) (k2 : Ent G M d (pc + 3) Q K2) : Ent G M d pc Q (o_icmp_ne K K2) := by
  intro ls stk σ h
  subst hb
  unfold o_icmp_ne at h
  split at h
  · rename_i y x r
    intro p e R s m args below meth c cells slots A Qf C hr H locs sl hP hS hL
    exact lv_icmp_ne C.1 C.2.1 hd ht (fun q => k _ _ _ (h.1 q) p e R s m args below meth c cells slots A Qf C hr H locs sl hP hS hL) (fun q => k2 _ _ _ (h.2 q) p e R s m args below meth c cells slots A Qf C hr H locs sl hP hS hL)
  · exact h.elim

def o_if_lt (K K2 : Kt) (ls : Lc) (stk : List Value) (σ : Mem) : Prop := match stk with
  | .int x :: r => (x < 0 → K ls r σ) ∧ (¬ x < 0 → K2 ls r σ)
  | _ => False
theorem N_if_lt (hb : M.2.1 = b) {off : Int} {tgt : Nat} (hd : decode b pc = .ok (.ifCond .lt off, 3)) (ht : (pc : Int) + off = (tgt : Int)) (k : Ent G M d tgt Q K) (k2 : Ent G M d (pc + 3) Q K2) : Ent G M d pc Q (o_if_lt K K2) := by
  intro ls stk σ h
  subst hb
  unfold o_if_lt at h
  split at h
  · rename_i x r
    intro p e R s m args below meth c cells slots A Qf C hr H locs sl hP hS hL
    exact lv_if_lt C.1 C.2.1 hd ht (fun q => k _ _ _ (h.1 q) p e R s m args below meth c cells slots A Qf C hr H locs sl hP hS hL) (fun q => k2 _ _ _ (h.2 q) p e R s m args below meth c cells slots A Qf C hr H locs sl hP hS hL)
  · exact h.elim
def o_icmp_lt (K K2 : Kt) (ls : Lc) (stk : List Value) (σ : Mem) : Prop := match stk with
  | .int y :: .int x :: r => (x < y → K ls r σ) ∧ (¬ x < y → K2 ls r σ)
  | _ => False
theorem N_icmp_lt (hb : M.2.1 = b) {off : Int} {tgt : Nat} (hd : decode b pc = .ok (.if_icmp .lt off, 3)) (ht : (pc : Int) + off = (tgt : Int)) (k : Ent G M d tgt Q K) (k2 : Ent G M d (pc + 3) Q K2) : Ent G M d pc Q (o_icmp_lt K K2) := by
  intro ls stk σ h
  subst hb
  unfold o_icmp_lt at h
  split at h
  · rename_i y x r
    intro p e R s m args below meth c cells slots A Qf C hr H locs sl hP hS hL
    exact lv_icmp_lt C.1 C.2.1 hd ht (fun q => k _ _ _ (h.1 q) p e R s m args below meth c cells slots A Qf C hr H locs sl hP hS hL) (fun q => k2 _ _ _ (h.2 q) p e R s m args below meth c cells slots A Qf C hr H locs sl hP hS hL)
  · exact h.elim

def o_if_ge (K K2 : Kt) (ls : Lc) (stk : List Value) (σ : Mem) : Prop := match stk with
  | .int x :: r => (0 ≤ x → K ls r σ) ∧ (¬ 0 ≤ x → K2 ls r σ)
  | _ => False
theorem N_if_ge (hb : M.2.1 = b) {off : Int} {tgt : Nat} (hd : decode b pc = .ok (.ifCond .ge off, 3)) (ht : (pc : Int) + off = (tgt : Int)) (k : Ent G M d tgt Q K) (k2 : Ent G M d (pc + 3) Q K2) : Ent G M d pc Q (o_if_ge K K2) := by
  intro ls stk σ h
  subst hb
  unfold o_if_ge at h
  split at h
  · rename_i x r
    intro p e R s m args below meth c cells slots A Qf C hr H locs sl hP hS hL
    exact lv_if_ge C.1 C.2.1 hd ht (fun q => k _ _ _ (h.1 q) p e R s m args below meth c cells slots A Qf C hr H locs sl hP hS hL) (fun q => k2 _ _ _ (h.2 q) p e R s m args below meth c cells slots A Qf C hr H locs sl hP hS hL)
  · exact h.elim
def o_icmp_ge (K K2 : Kt) (ls : Lc) (stk : List Value) (σ : Mem) : Prop := match stk with
  | .int y :: .int x :: r => (y ≤ x → K ls r σ) ∧ (¬ y ≤ x → K2 ls r σ)
  | _ => False
theorem N_icmp_ge (hb : M.2.1 = b) {off : Int} {tgt : Nat} (hd : decode b pc = .ok (.if_icmp .ge off, 3)) (ht : (pc : Int) + off = (tgt : Int)) (k : Ent G M d tgt Q K) (k2 : Ent G M d (pc + 3) Q K2) : Ent G M d pc Q (o_icmp_ge K K2) := by
  intro ls stk σ h
  subst hb
  unfold o_icmp_ge at h
  split at h
  · rename_i y x r
    intro p e R s m args below meth c cells slots A Qf C hr H locs sl hP hS hL
    exact lv_icmp_ge C.1 C.2.1 hd ht (fun q => k _ _ _ (h.1 q) p e R s m args below meth c cells slots A Qf C hr H locs sl hP hS hL) (fun q => k2 _ _ _ (h.2 q) p e R s m args below meth c cells slots A Qf C hr H locs sl hP hS hL)
  · exact h.elim

def o_if_gt (K K2 : Kt) (ls : Lc) (stk : List Value) (σ : Mem) : Prop := match stk with
  | .int x :: r => (0 < x → K ls r σ) ∧ (¬ 0 < x → K2 ls r σ)
  | _ => False
theorem N_if_gt (hb : M.2.1 = b) {off : Int} {tgt : Nat} (hd : decode b pc = .ok (.ifCond .gt off, 3)) (ht : (pc : Int) + off = (tgt : Int)) (k : Ent G M d tgt Q K) (k2 : Ent G M d (pc + 3) Q K2) : Ent G M d pc Q (o_if_gt K K2) := by
  intro ls stk σ h
  subst hb
  unfold o_if_gt at h
  split at h
  · rename_i x r
    intro p e R s m args below meth c cells slots A Qf C hr H locs sl hP hS hL
    exact lv_if_gt C.1 C.2.1 hd ht (fun q => k _ _ _ (h.1 q) p e R s m args below meth c cells slots A Qf C hr H locs sl hP hS hL) (fun q => k2 _ _ _ (h.2 q) p e R s m args below meth c cells slots A Qf C hr H locs sl hP hS hL)
  · exact h.elim
def o_icmp_gt (K K2 : Kt) (ls : Lc) (stk : List Value) (σ : Mem) : Prop := match stk with
  | .int y :: .int x :: r => (y < x → K ls r σ) ∧ (¬ y < x → K2 ls r σ)
  | _ => False
theorem N_icmp_gt (hb : M.2.1 = b) {off : Int} {tgt : Nat} (hd : decode b pc = .ok (.if_icmp .gt off, 3)) (ht : (pc : Int) + off = (tgt : Int)) (k : Ent G M d tgt Q K) (k2 : Ent G M d (pc + 3) Q K2) : Ent G M d pc Q (o_icmp_gt K K2) := by
  intro ls stk σ h
  subst hb
  unfold o_icmp_gt at h
  split at h
  · rename_i y x r
    intro p e R s m args below meth c cells slots A Qf C hr H locs sl hP hS hL
    exact lv_icmp_gt C.1 C.2.1 hd ht (fun q => k _ _ _ (h.1 q) p e R s m args below meth c cells slots A Qf C hr H locs sl hP hS hL) (fun q => k2 _ _ _ (h.2 q) p e R s m args below meth c cells slots A Qf C hr H locs sl hP hS hL)
  · exact h.elim

def o_if_le (K K2 : Kt) (ls : Lc) (stk : List Value) (σ : Mem) : Prop := match stk with
  | .int x :: r => (x ≤ 0 → K ls r σ) ∧ (¬ x ≤ 0 → K2 ls r σ)
  | _ => False
theorem N_if_le (hb : M.2.1 = b) {off : Int} {tgt : Nat} (hd : decode b pc = .ok (.ifCond .le off, 3)) (ht : (pc : Int) + off = (tgt : Int)) (k : Ent G M d tgt Q K) (k2 : Ent G M d (pc + 3) Q K2) : Ent G M d pc Q (o_if_le K K2) := by
  intro ls stk σ h
  subst hb
  unfold o_if_le at h
  split at h
  · rename_i x r
    intro p e R s m args below meth c cells slots A Qf C hr H locs sl hP hS hL
    exact lv_if_le C.1 C.2.1 hd ht (fun q => k _ _ _ (h.1 q) p e R s m args below meth c cells slots A Qf C hr H locs sl hP hS hL) (fun q => k2 _ _ _ (h.2 q) p e R s m args below meth c cells slots A Qf C hr H locs sl hP hS hL)
  · exact h.elim
def o_icmp_le (K K2 : Kt) (ls : Lc) (stk : List Value) (σ : Mem) : Prop := match stk with
  | .int y :: .int x :: r => (x ≤ y → K ls r σ) ∧ (¬ x ≤ y → K2 ls r σ)
  | _ => False
theorem N_icmp_le (hb : M.2.1 = b) {off : Int} {tgt : Nat} (hd : decode b pc = .ok (.if_icmp .le off, 3)) (ht : (pc : Int) + off = (tgt : Int)) (k : Ent G M d tgt Q K) (k2 : Ent G M d (pc + 3) Q K2) : Ent G M d pc Q (o_icmp_le K K2) := by
  intro ls stk σ h
  subst hb
  unfold o_icmp_le at h
  split at h
  · rename_i y x r
    intro p e R s m args below meth c cells slots A Qf C hr H locs sl hP hS hL
    exact lv_icmp_le C.1 C.2.1 hd ht (fun q => k _ _ _ (h.1 q) p e R s m args below meth c cells slots A Qf C hr H locs sl hP hS hL) (fun q => k2 _ _ _ (h.2 q) p e R s m args below meth c cells slots A Qf C hr H locs sl hP hS hL)
  · exact h.elim

/-- ifnonnull -/
def o_nonnull (K K2 : Kt) (ls : Lc) (stk : List Value) (σ : Mem) : Prop := match stk with
  | .ref _ :: r => K ls r σ
  | _ => False
theorem N_ifnonnull (hb : M.2.1 = b) {off : Int} {tgt : Nat} (hd : decode b pc = .ok (.ifnonnull off, 3)) (ht : (pc : Int) + off = (tgt : Int)) (k : Ent G M d tgt Q K) : Ent G M d pc Q (o_nonnull K K2) := by
  intro ls stk σ h
  subst hb
  unfold o_nonnull at h
  split at h
  · rename_i x r
    intro p e R s m args below meth c cells slots A Qf C hr H locs sl hP hS hL
    exact lv_ifnonnull C.1 C.2.1 hd ht (k _ _ _ h p e R s m args below meth c cells slots A Qf C hr H locs sl hP hS hL)
  · exact h.elim
/-- tableswitch: the default, the others by their places -/
def tsw (Ks : List Kt) (Kd : Kt) (i : Nat) : Kt := match Ks, i with
  | [], _ => Kd
  | k :: _, 0 => k
  | _ :: l, n + 1 => tsw l Kd n
def o_tsw (lo : Int) (Ks : List Kt) (Kd : Kt) (ls : Lc) (stk : List Value) (σ : Mem) : Prop := match stk with
  | .int x :: r => (x.toInt < lo ∨ lo + Ks.length ≤ x.toInt → Kd ls r σ) ∧ (∀ i, i < Ks.length → x.toInt = lo + i → tsw Ks Kd i ls r σ)
  | _ => False
theorem N_tsw (hb : M.2.1 = b) {dflt lo hi : Int} {offs : Array Int} {len : Nat} {tgt : Nat} {Ks : List Kt} (hd : decode b pc = .ok (.tableswitch dflt lo hi offs, len)) (ht : (pc : Int) + dflt = (tgt : Int)) (hh : hi = lo + Ks.length - 1) (k : Ent G M d tgt Q K)
    (ks : ∀ i, i < Ks.length → ∃ (off : Int) (t : Nat), offs[i]? = some off ∧ (pc : Int) + off = (t : Int) ∧ Ent G M d t Q (tsw Ks K i)) : Ent G M d pc Q (o_tsw lo Ks K) := by
  intro ls stk σ h
  subst hb
  unfold o_tsw at h
  split at h
  · rename_i x r
    intro p e R s m args below meth c cells slots A Qf C hr H locs sl hP hS hL
    by_cases q1 : x.toInt < lo ∨ hi < x.toInt
    · exact lv_tableOut C.1 C.2.1 hd q1 ht (k _ _ _ (h.1 (by omega)) p e R s m args below meth c cells slots A Qf C hr H locs sl hP hS hL)
    · have q2 : (x.toInt - lo).toNat < Ks.length := by omega
      obtain ⟨off, t, e1, e2, e3⟩ := ks _ q2
      exact lv_tableIn C.1 C.2.1 hd (by omega) (by omega) e1 e2 (e3 _ _ _ (h.2 _ q2 (by omega)) p e R s m args below meth c cells slots A Qf C hr H locs sl hP hS hL)
  · exact h.elim
/-- lookupswitch of two keys -/
def o_lsw2 (a1 a2 : Int32) (K1 K2 K : Kt) (ls : Lc) (stk : List Value) (σ : Mem) : Prop := match stk with
  | .int x :: r => (x = a1 → K1 ls r σ) ∧ (x = a2 → K2 ls r σ) ∧ (¬ x = a1 → ¬ x = a2 → K ls r σ)
  | _ => False
theorem N_lsw2 (hb : M.2.1 = b) {dflt i1 i2 o1 o2 : Int} {len t0 t1 t2 : Nat} {a1 a2 : Int32} {K1 : Kt} (hd : decode b pc = .ok (.lookupswitch dflt #[(i1, o1), (i2, o2)], len)) (ha1 : a1.toInt = i1) (ha2 : a2.toInt = i2) (hlt : i1 < i2) (h0 : (pc : Int) + dflt = (t0 : Int)) (h1 : (pc : Int) + o1 = (t1 : Int)) (h2 : (pc : Int) + o2 = (t2 : Int)) (k1 : Ent G M d t1 Q K1) (k2 : Ent G M d t2 Q K2) (k : Ent G M d t0 Q K) : Ent G M d pc Q (o_lsw2 a1 a2 K1 K2 K) := by
  intro ls stk σ h
  subst hb
  subst ha1
  subst ha2
  unfold o_lsw2 at h
  split at h
  · rename_i x r
    intro p e R s m args below meth c cells slots A Qf C hr H locs sl hP hS hL
    by_cases q1 : x = a1
    · exact lv_lookup C.1 C.2.1 hd (by simp [hlt]) (by subst q1; rw [Op.lookupswitch.offset_cons, if_pos rfl]) h1 (k1 _ _ _ (h.1 q1) p e R s m args below meth c cells slots A Qf C hr H locs sl hP hS hL)
    · by_cases q2 : x = a2
      · exact lv_lookup C.1 C.2.1 hd (by simp [hlt]) (by rw [lv_osw q1 rfl]; subst q2; rw [Op.lookupswitch.offset_cons, if_pos rfl]) h2 (k2 _ _ _ (h.2.1 q2) p e R s m args below meth c cells slots A Qf C hr H locs sl hP hS hL)
      · exact lv_lookup C.1 C.2.1 hd (by simp [hlt]) (by rw [lv_osw q1 rfl, lv_osw q2 rfl]; rfl) h0 (k _ _ _ (h.2.2 q1 q2) p e R s m args below meth c cells slots A Qf C hr H locs sl hP hS hL)
  · exact h.elim

/-- fields -/
def FL (own : String) (idx : Nat) (C : String) (T : u_T) (N ci k : Nat) : Prop := vwCl[ci]? = some (C, T, N) ∧ k < N ∧ Cond.fieldLink own idx (T k).1 (T k).2.1 (T k).2.2.1 ∈ gtbl ∧ (∀ w ∈ u_ws C T N, w ∈ gtbl)
def o_getf (ci k : Nat) (K : Kt) (ls : Lc) (stk : List Value) (σ : Mem) : Prop := match stk with
  | .ref a :: r => (sh a).1 = ci + 4 ∧ k < (sh a).2.2.length ∧ K ls (fval ((sh a).2.2.getD k 0) (σ a k) :: r) σ
  | _ => False
theorem N_getf (hb : M.2.1 = b) {own C : String} {T : u_T} {N ci k idx : Nat} (ho : M.1.cls = own) (hw : FL own idx C T N ci k) (hd : decode b pc = .ok (.getfield idx, 3)) (kk : Ent G M d (pc + 3) Q K) : Ent G M d pc Q (o_getf ci k K) := by
  intro ls stk σ h
  subst hb
  subst ho
  unfold o_getf at h
  split at h
  · rename_i a r
    obtain ⟨h1, h2, h⟩ := h
    obtain ⟨w1, w2, w3, w4⟩ := hw
    have hci : ci < 6 := (List.getElem?_eq_some_iff.mp w1).1
    have ha : a < 67 := sh_lt h1 (by omega)
    intro p e R s m args below meth c cells slots A Qf C hr H locs sl hP hS hL
    refine va_get C.1 C.2.1 C.2.2.2.2.1 w4 C.2.2.2.1 C.2.2.2.2.2.2.1 hP a (by rw [ws_at G σ ha, cell_o G h1]) w1 k w2 (C.2.2.2.2.1 _ w3) (fun _ h => h) ?_ hd (kk _ _ _ h p e R s m args below meth c cells slots A Qf C hr H locs sl hP hS hL)
    rw [List.getElem?_mapIdx, List.getElem?_eq_getElem h2, Option.map_some, List.getD_eq_getElem?_getD, List.getElem?_eq_getElem h2]
    rfl
  · exact h.elim
theorem mapIdx_set (ad : Nat → Nat) (tg : List Nat) (row : Nat → Int32) (k : Nat) (x : Int32) (hk : k < tg.length) :
    tg.mapIdx (fun j g => cv ad (fval g (upd row k x j))) = (tg.mapIdx (fun j g => cv ad (fval g (row j)))).set k (cv ad (fval (tg.getD k 0) x)) := by
  apply List.ext_getElem?
  intro j
  rw [List.getElem?_set]
  by_cases h : k = j
  · subst h
    rw [if_pos rfl, if_pos (by simpa using hk), List.getElem?_mapIdx, List.getElem?_eq_getElem hk, List.getD_eq_getElem?_getD, List.getElem?_eq_getElem hk]
    simp [upd]
  · rw [if_neg h, List.getElem?_mapIdx, List.getElem?_mapIdx]
    have h' : ¬ j = k := fun q => h q.symm
    simp [upd, h']
def wr (σ : Mem) (a i : Nat) (x : Int32) : Mem := va_up σ a (upd (σ a) i x)
/-- an int field -/
def o_putf (ci k : Nat) (K : Kt) (ls : Lc) (stk : List Value) (σ : Mem) : Prop := match stk with
  | .int x :: .ref a :: r => (sh a).1 = ci + 4 ∧ k < (sh a).2.2.length ∧ (sh a).2.2.getD k 0 = 0 ∧ K ls r (wr σ a k x)
  | _ => False
theorem N_putf (hb : M.2.1 = b) {own C : String} {T : u_T} {N ci k idx : Nat} (ho : M.1.cls = own) (hw : FL own idx C T N ci k) (ty0 : Nat → FieldType) (hty : ∀ k, k < N → parseFieldDescriptor (T k).2.2.1 = some (ty0 k)) (hnm : ∀ a, a < N → ∀ b, b < N → a ≠ b → (T a).2.1 ≠ (T b).2.1) (hfin : (T k).2.2.2 = false) (hint : ty0 k = .int) (hd : decode b pc = .ok (.putfield idx, 3)) (kk : Ent G M d (pc + 3) Q K) : Ent G M d pc Q (o_putf ci k K) := by
  intro ls stk σ h
  subst hb
  subst ho
  unfold o_putf at h
  split at h
  · rename_i x a r
    obtain ⟨h1, h2, h3, h⟩ := h
    obtain ⟨w1, w2, w3, w4⟩ := hw
    have hci : ci < 6 := (List.getElem?_eq_some_iff.mp w1).1
    have ha : a < 67 := sh_lt h1 (by omega)
    intro p e R s m args below meth c cells slots A Qf C hr H locs sl hP hS hL
    refine va_put (v := .int x) C.1 C.2.1 C.2.2.2.2.1 w4 ty0 hty hnm C.2.2.2.1 C.2.2.2.2.2.2.1 hP (ws_D C.2.2.2.2.2.2.2.2.1 C.2.2.2.2.2.2.2.2.2.1 σ) hS a (by rw [ws_at G σ ha, cell_o G h1]) w1 k w2 (C.2.2.2.2.1 _ w3) (fun _ h => h) hfin (by rw [hty k w2, hint]) rfl rfl (by simpa using h2) hd (fun H1 locs1 hP1 _ hS1 => ?_)
    rw [ws_set (row := upd (σ a) k x) ha (by rw [cell_o G h1, mapIdx_set _ _ _ _ _ h2, h3]; rfl)] at hP1
    exact kk _ _ _ h p e R s m args below meth c cells slots A Qf C hr H1 locs1 sl hP1 hS1 hL
  · exact h.elim
/-- a field that holds a reference that changes -/
def o_putr (ci k : Nat) (K : Kt) (ls : Lc) (stk : List Value) (σ : Mem) : Prop := match stk with
  | .ref x :: .ref a :: r => (sh a).1 = ci + 4 ∧ k < (sh a).2.2.length ∧ (sh a).2.2.getD k 0 = 1 ∧ 0 < x ∧ x < 67 ∧ K ls r (wr σ a k (nI x))
  | _ => False
theorem N_putr (hb : M.2.1 = b) {own C : String} {T : u_T} {N ci k idx : Nat} (ho : M.1.cls = own) (hw : FL own idx C T N ci k) (ty0 : Nat → FieldType) (hty : ∀ k, k < N → parseFieldDescriptor (T k).2.2.1 = some (ty0 k)) (hnm : ∀ a, a < N → ∀ b, b < N → a ≠ b → (T a).2.1 ≠ (T b).2.1) (hfin : (T k).2.2.2 = false) {cn : String} (hobj : ty0 k = .object cn) (hd : decode b pc = .ok (.putfield idx, 3)) (kk : Ent G M d (pc + 3) Q K) : Ent G M d pc Q (o_putr ci k K) := by
  intro ls stk σ h
  subst hb
  subst ho
  unfold o_putr at h
  split at h
  · rename_i x a r
    obtain ⟨h1, h2, h3, hx0, hx1, h⟩ := h
    have hx2 : @LT.lt Nat _ x 2147483648 := Nat.lt_trans hx1 (by decide)
    obtain ⟨w1, w2, w3, w4⟩ := hw
    have hci : ci < 6 := (List.getElem?_eq_some_iff.mp w1).1
    have ha : a < 67 := sh_lt h1 (by omega)
    intro p e R s m args below meth c cells slots A Qf C hr H locs sl hP hS hL
    refine va_put (v := .ref (G.2.2.1 x)) C.1 C.2.1 C.2.2.2.2.1 w4 ty0 hty hnm C.2.2.2.1 C.2.2.2.2.2.2.1 hP (ws_D C.2.2.2.2.2.2.2.2.1 C.2.2.2.2.2.2.2.2.2.1 σ) hS a (by rw [ws_at G σ ha, cell_o G h1]) w1 k w2 (C.2.2.2.2.1 _ w3) (fun _ h => h) hfin (by rw [hty k w2, hobj]) rfl rfl (by simpa using h2) hd (fun H1 locs1 hP1 _ hS1 => ?_)
    rw [ws_set (row := upd (σ a) k (nI x)) ha (by rw [cell_o G h1, mapIdx_set _ _ _ _ _ h2, h3]; simp only [fval]; rw [if_neg (nI_ne0 hx0 hx2), nI_clamp hx2]; rfl)] at hP1
    exact kk _ _ _ h p e R s m args below meth c cells slots A Qf C hr H1 locs1 sl hP1 hS1 hL
  · exact h.elim

def o_iaload (K : Kt) (ls : Lc) (stk : List Value) (σ : Mem) : Prop := match stk with
  | .int i :: .ref a :: r => (sh a).1 = 0 ∧ vp_in i (sh a).2.1 ∧ K ls (.int (σ a i.toNatClampNeg) :: r) σ
  | _ => False
theorem N_iaload (hb : M.2.1 = b) (hd : decode b pc = .ok (.iaload, 1)) (kk : Ent G M d (pc + 1) Q K) : Ent G M d pc Q (o_iaload K) := by
  intro ls stk σ h
  subst hb
  unfold o_iaload at h
  split at h
  · rename_i i a r
    obtain ⟨h1, h2, h⟩ := h
    have ha : a < 67 := sh_lt h1 (by omega)
    intro p e R s m args below meth c cells slots A Qf C hr H locs sl hP hS hL
    exact va_iald C.1 C.2.1 C.2.2.2.2.2.2.1 hP a 0 (by rw [ws_at G σ ha, cell_i G h1]) rfl h2 hd (kk _ _ _ h p e R s m args below meth c cells slots A Qf C hr H locs sl hP hS hL)
  · exact h.elim
def o_iastore (K : Kt) (ls : Lc) (stk : List Value) (σ : Mem) : Prop := match stk with
  | .int x :: .int i :: .ref a :: r => (sh a).1 = 0 ∧ vp_in i (sh a).2.1 ∧ K ls r (wr σ a i.toNatClampNeg x)
  | _ => False
theorem N_iastore (hb : M.2.1 = b) (hd : decode b pc = .ok (.iastore, 1)) (kk : Ent G M d (pc + 1) Q K) : Ent G M d pc Q (o_iastore K) := by
  intro ls stk σ h
  subst hb
  unfold o_iastore at h
  split at h
  · rename_i x i a r
    obtain ⟨h1, h2, h⟩ := h
    have ha : a < 67 := sh_lt h1 (by omega)
    intro p e R s m args below meth c cells slots A Qf C hr H locs sl hP hS hL
    refine va_iast C.1 C.2.1 C.2.2.2.2.2.2.1 hP (ws_D C.2.2.2.2.2.2.2.2.1 C.2.2.2.2.2.2.2.2.2.1 σ) hS a 0 (by rw [ws_at G σ ha, cell_i G h1]) rfl h2 hd (fun H1 locs1 hP1 _ hS1 => ?_)
    rw [ws_set (row := upd (σ a) i.toNatClampNeg x) ha (cell_i G h1 _)] at hP1
    exact kk _ _ _ h p e R s m args below meth c cells slots A Qf C hr H1 locs1 sl hP1 hS1 hL
  · exact h.elim

def o_baload (K : Kt) (ls : Lc) (stk : List Value) (σ : Mem) : Prop := match stk with
  | .int i :: .ref a :: r => (sh a).1 = 1 ∧ vp_in i (sh a).2.1 ∧ K ls (.int (σ a i.toNatClampNeg) :: r) σ
  | _ => False
theorem N_baload (hb : M.2.1 = b) (hd : decode b pc = .ok (.baload, 1)) (kk : Ent G M d (pc + 1) Q K) : Ent G M d pc Q (o_baload K) := by
  intro ls stk σ h
  subst hb
  unfold o_baload at h
  split at h
  · rename_i i a r
    obtain ⟨h1, h2, h⟩ := h
    have ha : a < 67 := sh_lt h1 (by omega)
    intro p e R s m args below meth c cells slots A Qf C hr H locs sl hP hS hL
    exact va_zald C.1 C.2.1 C.2.2.2.2.2.2.1 hP a 1 (by rw [ws_at G σ ha, cell_z G h1]) rfl h2 hd (kk _ _ _ h p e R s m args below meth c cells slots A Qf C hr H locs sl hP hS hL)
  · exact h.elim
def o_bastore (K : Kt) (ls : Lc) (stk : List Value) (σ : Mem) : Prop := match stk with
  | .int x :: .int i :: .ref a :: r => (sh a).1 = 1 ∧ vp_in i (sh a).2.1 ∧ K ls r (wr σ a i.toNatClampNeg (vp_nar .boolean x))
  | _ => False
theorem N_bastore (hb : M.2.1 = b) (hd : decode b pc = .ok (.bastore, 1)) (kk : Ent G M d (pc + 1) Q K) : Ent G M d pc Q (o_bastore K) := by
  intro ls stk σ h
  subst hb
  unfold o_bastore at h
  split at h
  · rename_i x i a r
    obtain ⟨h1, h2, h⟩ := h
    have ha : a < 67 := sh_lt h1 (by omega)
    intro p e R s m args below meth c cells slots A Qf C hr H locs sl hP hS hL
    refine va_zast C.1 C.2.1 C.2.2.2.2.2.2.1 hP (ws_D C.2.2.2.2.2.2.2.2.1 C.2.2.2.2.2.2.2.2.2.1 σ) hS a 1 (by rw [ws_at G σ ha, cell_z G h1]) rfl h2 hd (fun H1 locs1 hP1 _ hS1 => ?_)
    rw [ws_set (row := upd (σ a) i.toNatClampNeg (vp_nar .boolean x)) ha (cell_z G h1 _)] at hP1
    exact kk _ _ _ h p e R s m args below meth c cells slots A Qf C hr H1 locs1 sl hP1 hS1 hL
  · exact h.elim

def o_alen (K : Kt) (ls : Lc) (stk : List Value) (σ : Mem) : Prop := match stk with
  | .ref a :: r => (sh a).1 = 0 ∧ K ls (.int (nI (sh a).2.1) :: r) σ
  | _ => False
theorem N_alen (hb : M.2.1 = b) (hd : decode b pc = .ok (.arraylength, 1)) (kk : Ent G M d (pc + 1) Q K) : Ent G M d pc Q (o_alen K) := by
  intro ls stk σ h
  subst hb
  unfold o_alen at h
  split at h
  · rename_i a r
    obtain ⟨h1, h⟩ := h
    have ha : a < 67 := sh_lt h1 (by omega)
    intro p e R s m args below meth c cells slots A Qf C hr H locs sl hP hS hL
    exact va_alen (x := ((sh a).2.1, .inl (σ a))) C.1 C.2.1 C.2.2.2.2.2.2.1 hP a 0 (by rw [ws_at G σ ha, cell_i G h1]) rfl rfl hd (kk _ _ _ h p e R s m args below meth c cells slots A Qf C hr H locs sl hP hS hL)
  · exact h.elim
/-- a row of references -/
def o_aaload (K : Kt) (ls : Lc) (stk : List Value) (σ : Mem) : Prop := match stk with
  | .int i :: .ref a :: r => ((sh a).1 = 2 ∨ (sh a).1 = 3) ∧ vp_in i (sh a).2.1 ∧ ∃ x, (sh a).2.2[i.toNatClampNeg]? = some x ∧ K ls (.ref x :: r) σ
  | _ => False
theorem N_aaload (hb : M.2.1 = b) (hd : decode b pc = .ok (.aaload, 1)) (kk : Ent G M d (pc + 1) Q K) : Ent G M d pc Q (o_aaload K) := by
  intro ls stk σ h
  subst hb
  unfold o_aaload at h
  split at h
  · rename_i i a r
    obtain ⟨h1, h2, x, h3, h⟩ := h
    intro p e R s m args below meth c cells slots A Qf C hr H locs sl hP hS hL
    have hw := kk _ _ _ h p e R s m args below meth c cells slots A Qf C hr H locs sl hP hS hL
    rcases h1 with h1 | h1
    · have ha : a < 67 := sh_lt h1 (by omega)
      refine va_aldq C.1 C.2.1 C.2.2.2.2.2.2.1 hP a 2 (by rw [ws_at G σ ha, cell_q G h1 (by omega) (by omega)]) rfl h2 hd ?_
      rw [h3]
      exact hw
    · have ha : a < 67 := sh_lt h1 (by omega)
      refine va_aldq C.1 C.2.1 C.2.2.2.2.2.2.1 hP a 3 (by rw [ws_at G σ ha, cell_q G h1 (by omega) (by omega)]) rfl h2 hd ?_
      rw [h3]
      exact hw
  · exact h.elim
/-- returns -/
def o_iret (M : Mth) (Q : Option Value → Mem → Prop) (ls : Lc) (stk : List Value) (σ : Mem) : Prop := match stk with
  | [.int x] => Q (some (.int x)) σ
  | _ => False
theorem N_iret (hb : M.2.1 = b) (hr0 : M.2.2.2.1 = some .int) (hd : decode b pc = .ok (.ireturn, 1)) : Ent G M d pc Q (o_iret M Q) := by
  intro ls stk σ h
  subst hb
  unfold o_iret at h
  split at h
  · rename_i x
    intro p e R s m args below meth c cells slots A Qf C hr H locs sl hP hS hL
    exact hr (some (.int x)) σ H locs pc sl h hP hS (Or.inr ⟨x, rfl, hd, Or.inl hr0⟩)
  · exact h.elim
def o_zret (M : Mth) (Q : Option Value → Mem → Prop) (ls : Lc) (stk : List Value) (σ : Mem) : Prop := match stk with
  | [.int x] => (x = 0 ∨ x = 1) ∧ Q (some (.int x)) σ
  | _ => False
theorem N_zret (hb : M.2.1 = b) (hr0 : M.2.2.2.1 = some .boolean) (hd : decode b pc = .ok (.ireturn, 1)) : Ent G M d pc Q (o_zret M Q) := by
  intro ls stk σ h
  subst hb
  unfold o_zret at h
  split at h
  · rename_i x
    intro p e R s m args below meth c cells slots A Qf C hr H locs sl hP hS hL
    exact hr (some (.int x)) σ H locs pc sl h.2 hP hS (Or.inr ⟨x, rfl, hd, Or.inr ⟨hr0, h.1⟩⟩)
  · exact h.elim
def o_vret (Q : Option Value → Mem → Prop) (ls : Lc) (stk : List Value) (σ : Mem) : Prop := match stk with
  | [] => Q none σ
  | _ => False
theorem N_vret (hb : M.2.1 = b) (hr0 : M.2.2.2.1 = none) (hd : decode b pc = .ok (.return_, 1)) : Ent G M d pc Q (o_vret Q) := by
  intro ls stk σ h
  subst hb
  unfold o_vret at h
  split at h
  · intro p e R s m args below meth c cells slots A Qf C hr H locs sl hP hS hL
    exact hr none σ H locs pc sl h hP hS (Or.inl ⟨rfl, hr0, hd⟩)
  · exact h.elim
end OPS
