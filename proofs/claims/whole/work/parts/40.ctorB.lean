/-! glue; the constructors: what they share -/
theorem InvC.ok {σ : Mem} {A : ASt} (h : InvC σ A) : AOk A := ⟨h.1, ⟨h.2.2.1.2.2.2.2.1.1, fun i hi => (h.2.2.1.2.2.2.2.1.2.2 i hi).2⟩, h.2.2.1.2.2.2.1.2⟩
theorem InvC.mfr {σ τ : Mem} {A : ASt} (h : InvC σ A) (hf : MFr σ τ) : InvC τ A := by
  refine ⟨h.1, h.2.1.fr (fun a _ _ => hf a (by omega)), h.2.2.1.fr (fun a ha => hf a (by omega)), fun m hm => ?_⟩
  rcases h.2.2.2 m hm with q | ⟨q1, q2, q3⟩
  · exact Or.inl (by rw [hf 51 (by omega)]; exact q)
  · exact Or.inr ⟨by rw [hf 51 (by omega)]; exact q1, by rw [hf 50 (by omega)]; exact q2, q3.fr (fun a _ _ => hf a (by omega))⟩
theorem InvM.cfr {σ τ : Mem} {A : ASt} (h : InvM σ A) (hf : FrC σ τ) : InvM τ A := h.fr (h.1.fr (hf 58 (by omega))) (by rw [hf 57 (by omega)]) (fun a ha => hf a (by omega))
abbrev TyC (cA : Nat → ClassId) : List (ClassId × FieldType) := [(cA 0, .int), (cA 1, .boolean), (cA 2, .object RX3), (cA 3, .object RX1)]
def NX (U : State) : Prop := (∀ w ∈ nestWs, va_Nw w U) ∧ va_AO RX3 U ∧ va_AO RX1 U
theorem NX.warm {s U : State} (hW : s.WarmedH U.vm) (h : NX s) : NX U := ⟨fun w hw => nest_warm hW w hw (h.1 w hw), h.2.1.moved hW.alike, h.2.2.moved hW.alike⟩
/-- a constructor's start: the new object alone -/
def PcC (D : va_G) (cA : Nat → ClassId) (h0 sz ci : Nat) (fs : List Value) : Array Value → State → Prop := va_Pc [.ref h0] (fun U => U.heap.size = sz ∧ va_P D vwCl [(h0, .inr (ci, fs))] U.heap ∧ va_K D vwCl (TyC cA) U ∧ va_D (fun _ => True) [(h0, .inr (ci, fs))] ∧ NX U)
theorem PcC_blind (D : va_G) (cA : Nat → ClassId) (h0 sz ci : Nat) (fs : List Value) : FrameBlind (PcC D cA h0 sz ci fs) := by
  intro a U g mk q
  obtain ⟨q0, q1, qP, qK, qD, qN, qA, qB⟩ := q
  exact ⟨q0, q1, qP, va_K.moved (u := U) (U := U.calling g mk a) (Vm.Alike.refl U.vm) qK, qD, fun w hw => va_Nw.same (u := U) (nest_on w hw) rfl (qN w hw), qA.moved (u := U) (Vm.Alike.refl U.vm), qB.moved (u := U) (Vm.Alike.refl U.vm)⟩
/-- a constructor's contract: behind it the object's world B, at addresses u -/
def Ctor (l : Launch) (D : va_G) (cA : Nat → ClassId) (M : Mth) (rm : Room) (ci : Nat) (fs : List Value) (B : Nat → (Nat → Nat) → va_W) (mc ms : Nat) : Prop :=
  ∀ h0 sz, Met l M.1 (wsM M) rm (PcC D cA h0 sz ci fs) (va_Qv (fun _ : Nat → Nat => True) (fun u t => va_P D vwCl (B h0 u) t.heap ∧ va_D (va_A [(h0, .inr (ci, fs))] sz) (B h0 u)) (va_A [(h0, .inr (ci, fs))] sz)) mc ms (va_A [(h0, .inr (ci, fs))] sz)
theorem nd_range : ∀ n, va_nd (List.range n) = true := by
  intro n
  have key : ∀ l : List Nat, l.Nodup → va_nd l = true := by
    intro l
    induction l with
    | nil => intro _; rfl
    | cons a l ih =>
      intro h
      have h2 := List.nodup_cons.mp h
      simp only [va_nd, ih h2.2]
      simp [h2.1]
  exact key _ List.nodup_range
theorem range_map {ws : va_W} {x : Nat × va_E} : (List.range ws.length).map (fun i => (ws ++ [x])[i]?) = ws.map some := by
  apply List.ext_getElem?
  intro i
  by_cases h : i < ws.length
  · simp [h, List.getElem?_append_left h]
  · simp [h]
section MAKE
variable {p : Program} {l : Launch} {e : Env} {R : Room} {s : State} {m : MethodId} {args : Array Value} {below : List Frame} {meth : Method} {c : Code} {H : Heap} {locs : List Loc} {cells slots : Nat} {Qf : State → Prop}
variable {pc nL : Nat} {ls : Array Slot} {rest : List Value} {A : Nat → Prop} {H0 : Heap} {cc : ByteArray} {own : String} {D : va_G} {cA : Nat → ClassId} {ws : va_W}
theorem c_make (hx : p.tables.exec = Jvm.exec) (hb : c.code = cc) (hml : c.maxLocals = nL) (hls : ls.size = nL) (hown : s.vm.findClass own = some m.cls) (hg : ∀ w ∈ gtbl, w.before args s = true) (hN : NX s) (hK : va_K D vwCl (TyC cA) s) (hP : va_P D vwCl ws H) (hD : va_D A ws) (hS : va_S A H0 H locs) (hA : ∀ q, H0.size ≤ q → A q)
    {C : String} {T : u_T} {N ci i1 i2 : Nat} {M : Mth} {rm : Room} {fs : List Value} {B : Nat → (Nat → Nat) → va_W} {mc ms : Nat} (hM : Ctor l D cA M rm ci fs B mc ms) (hMok : MOk M) (hci : vwCl[ci]? = some (C, T, N)) (hin : ∀ w ∈ u_ws C T N, w ∈ gtbl) (ty : Nat → FieldType) (hty : ∀ k, k < N → parseFieldDescriptor (T k).2.2.1 = some (ty k))
    (hcl : Cond.classLink own i1 C ∈ gtbl) (hinst : Cond.instantiable C N ∈ gtbl) (hini : Cond.initialized C ∈ gtbl) (hfs : ∀ j, j < N → defaultValue (ty j) = vp_V fs j)
    (hlk : Cond.methodLink own i2 M.1 ∈ gtbl ∨ ∃ host, Cond.methodLinkNest own i2 M.1 host ∈ nestWs) (hnm : M.1.name = "<init>") (hins : Cond.instanceMethod M.1 ∈ gtbl) (hpar : (parseMethodDescriptor M.1.desc).map (fun d => d.parameters.length) = some 0) (hrt : M.2.2.2.1 = none)
    (hrc : rm.cells = mc) (hrs : rm.slots = ms) (hR : rm.frames + 1 ≤ R.frames ∧ 8 + (M.2.2.1 + 11) + rm.locals ≤ R.locals) (hcells : cells + 1 + mc ≤ R.cells) (hslots : slots + N + ms ≤ R.slots) (hw : (rest.map fun v => v.category).sum ≤ 5)
    (d1 : decode cc pc = .ok (.new i1, 3)) (d2 : decode cc (pc + 3) = .ok (.dup, 1)) (d3 : decode cc (pc + 4) = .ok (.invokespecial i2, 3))
    (kk : ∀ (q : Nat) (u : Nat → Nat) (H1 : Heap) (locs1 : List Loc), va_P D vwCl (ws ++ B q u) H1 → va_D A (ws ++ B q u) → va_S A H0 H1 locs1 → W p l e R s m args below meth c H1 locs1 (cells + 1 + mc) (slots + N + ms) Qf (F0 m (pc + 7) ls (.ref q :: rest))) :
    W p l e R s m args below meth c H locs cells slots Qf (F0 m pc ls rest) := by
  refine va_new (ci := ci) (fs := fs) hx hb hg hin ty hty hown (hg _ hcl) (hg _ hinst) (hg _ hini) hK hP hD hS hA hci hfs (by omega) (by omega) d1 (fun q H hP hD hS => ?_)
  refine lv_dup hx hb d2 rfl ?_
  have hPc : va_P D vwCl [(q, .inr (ci, fs))] H := hP.sub [ws.length] (by simp)
  have hDc : va_D A [(q, .inr (ci, fs))] := hD.sub [ws.length] rfl (by simp)
  have hFc := va_free (wc := [(q, .inr (ci, fs))]) hD hS hA [ws.length] (by simp)
  have hpre : PreS s H (PcC D cA q H.size ci fs) (.ref q :: []) := ⟨PcC_blind D cA q H.size ci fs, fun U hU hW => ⟨rfl, by rw [hU], by rw [hU]; exact hPc, va_K.moved hW.alike hK, hDc.weaken (fun _ _ _ _ => trivial), hN.warm hW⟩⟩
  have hwr : ((.ref q :: rest : List Value).map fun v => v.category).sum ≤ 8 := by
    simp only [List.map_cons, List.sum_cons]
    have : (Value.ref q).category = 1 := rfl
    omega
  have hrun : va_Run p l e R s m args below meth c H locs (cells + 1) (slots + N) mc ms (F0 m (pc + 3 + 1) ls (.ref q :: .ref q :: rest)) (.ref q :: rest) (va_Qv (fun _ : Nat → Nat => True) (fun u t => va_P D vwCl (B q u) t.heap ∧ va_D (va_A [(q, .inr (ci, fs))] H.size) (B q u)) (va_A [(q, .inr (ci, fs))] H.size) (Value.ref q :: []).toArray) (va_A [(q, .inr (ci, fs))] H.size) := by
    rcases hlk with hlk | ⟨host, hlk⟩
    · exact va_runI (As := []) (rest := .ref q :: rest) ⟨hx, hb, hml, hown, hg⟩ (hM q H.size) ⟨callB_of 0 hg (wsM_good hMok) (by rw [wsM, hrt]) hrc hrs (hg _ hMok.2.2.1) (hg _ hlk) ⟨hMok.2.2.2.1.1, hMok.2.2.2.1.2, hpar⟩ hR, hnm, hg _ hins⟩ hpre rfl rfl hls rfl (lv_room hwr) d3 ⟨hcells, hslots⟩
    · exact va_runIN (As := []) (rest := .ref q :: rest) ⟨hx, hb, hml, hown, hg⟩ (hM q H.size) ⟨va_cnB 0 hg (wsM_good hMok) (by rw [wsM, hrt]) hrc hrs (hN.1 _ hlk) (hg _ hMok.2.2.1) ⟨hMok.2.2.2.1.1, hMok.2.2.2.1.2, hpar⟩ hR, hnm, hg _ hins⟩ hpre rfl rfl hls rfl (lv_room hwr) d3 ⟨hcells, hslots⟩
  refine va_callv hrun hS (fun q _ h => hFc q h) hFc (fun u t H1 locs ht hvm hw hB hz1 hk1 hS => ?_)
  obtain ⟨hP1, hD1⟩ := hB
  rw [ht] at hP1
  obtain ⟨hP, hD⟩ := va_join (wc := [(q, .inr (ci, fs))]) (wr := ws) (w1 := B q u) hP hD [ws.length] (List.range ws.length) (by simp) range_map (nd_range _) (fun i hi hj => by
    have h1 := List.mem_range.mp hi
    have h2 := List.mem_singleton.mp hj
    omega) hk1 hFc hP1 hD1
  exact kk q u H1 locs hP hD hS
theorem c_newI (hx : p.tables.exec = Jvm.exec) (hb : c.code = cc) (hg : ∀ w ∈ gtbl, w.before args s = true) (hK : va_K D vwCl (TyC cA) s) (hP : va_P D vwCl ws H) (hD : va_D A ws) (hS : va_S A H0 H locs) (hA : ∀ q, H0.size ≤ q → A q)
    {n : Int32} {N' : Nat} (hwd : Cond.arrayClass .int ∈ gtbl) (hn : ¬ n < 0) (hN : n.toNatClampNeg = N') (hbytes : N' * componentBytes .int ≤ 536870912) (hcells : cells + 1 ≤ R.cells) (hslots : slots + N' ≤ R.slots) (hdg : decode cc pc = .ok (.newarray .int, 2))
    (kk : ∀ (q : Nat) (H1 : Heap), va_P D vwCl (ws ++ [(q, .inl (cA 0, N', .inl (fun _ => 0)))]) H1 → va_D A (ws ++ [(q, .inl (cA 0, N', .inl (fun _ => 0)))]) → va_S A H0 H1 locs → W p l e R s m args below meth c H1 locs (cells + 1) (slots + N') Qf (F0 m (pc + 2) ls (.ref q :: rest))) :
    W p l e R s m args below meth c H locs cells slots Qf (F0 m pc ls (.int n :: rest)) := by
  refine va_newa (atype := .int) (ty := .int) (a0 := (N', .inl (fun _ => 0))) hx hb (hg _ hwd) rfl hK hP hD hS hA (fun cA => by rw [vp_cell_i]; rfl) hn hN hbytes hcells hslots hdg (fun q cB H1 hK1 hP1 hD1 hS1 => ?_)
  have e1 : s.vm.findClass ("[" ++ FieldType.int.toString) = some (cA 0) := (hK.2 0 (cA 0, .int) rfl).2
  have e2 : s.vm.findClass ("[" ++ FieldType.int.toString) = some cB := (hK1.2 4 (cB, .int) rfl).2
  have : cB = cA 0 := Option.some.inj (e2.symm.trans e1)
  subst this
  exact kk q H1 hP1 hD1 hS1
theorem c_newZ (hx : p.tables.exec = Jvm.exec) (hb : c.code = cc) (hg : ∀ w ∈ gtbl, w.before args s = true) (hK : va_K D vwCl (TyC cA) s) (hP : va_P D vwCl ws H) (hD : va_D A ws) (hS : va_S A H0 H locs) (hA : ∀ q, H0.size ≤ q → A q)
    {n : Int32} {N' : Nat} (hwd : Cond.arrayClass .boolean ∈ gtbl) (hn : ¬ n < 0) (hN : n.toNatClampNeg = N') (hbytes : N' * componentBytes .boolean ≤ 536870912) (hcells : cells + 1 ≤ R.cells) (hslots : slots + N' ≤ R.slots) (hdg : decode cc pc = .ok (.newarray .boolean, 2))
    (kk : ∀ (q : Nat) (H1 : Heap), va_P D vwCl (ws ++ [(q, .inl (cA 1, N', .inl (fun _ => 0)))]) H1 → va_D A (ws ++ [(q, .inl (cA 1, N', .inl (fun _ => 0)))]) → va_S A H0 H1 locs → W p l e R s m args below meth c H1 locs (cells + 1) (slots + N') Qf (F0 m (pc + 2) ls (.ref q :: rest))) :
    W p l e R s m args below meth c H locs cells slots Qf (F0 m pc ls (.int n :: rest)) := by
  refine va_newa (atype := .boolean) (ty := .boolean) (a0 := (N', .inl (fun _ => 0))) hx hb (hg _ hwd) rfl hK hP hD hS hA (fun cA => by rw [vp_cell_i]; rfl) hn hN hbytes hcells hslots hdg (fun q cB H1 hK1 hP1 hD1 hS1 => ?_)
  have e1 : s.vm.findClass ("[" ++ FieldType.boolean.toString) = some (cA 1) := (hK.2 1 (cA 1, .boolean) rfl).2
  have e2 : s.vm.findClass ("[" ++ FieldType.boolean.toString) = some cB := (hK1.2 4 (cB, .boolean) rfl).2
  have : cB = cA 1 := Option.some.inj (e2.symm.trans e1)
  subst this
  exact kk q H1 hP1 hD1 hS1
theorem c_newQ (hx : p.tables.exec = Jvm.exec) (hb : c.code = cc) (hown : s.vm.findClass own = some m.cls) (hg : ∀ w ∈ gtbl, w.before args s = true) (hK : va_K D vwCl (TyC cA) s) (hP : va_P D vwCl ws H) (hD : va_D A ws) (hS : va_S A H0 H locs) (hA : ∀ q, H0.size ≤ q → A q)
    {n : Int32} {N' k index : Nat} {C : String} (hk : (TyC cA)[k]? = some (cA k, .object C)) (hao : va_AO C s) (hcl : Cond.classLink own index C ∈ gtbl) (hn : ¬ n < 0) (hN : n.toNatClampNeg = N') (hbytes : N' * 4 ≤ 536870912) (hcells : cells + 1 ≤ R.cells) (hslots : slots + N' ≤ R.slots) (hdg : decode cc pc = .ok (.anewarray index, 3))
    (kk : ∀ (q : Nat) (H1 : Heap), va_P D vwCl (ws ++ [(q, .inl (cA k, N', .inr (.inr (.inr (.inr (fun _ => none))))))]) H1 → va_D A (ws ++ [(q, .inl (cA k, N', .inr (.inr (.inr (.inr (fun _ => none))))))]) → va_S A H0 H1 locs → W p l e R s m args below meth c H1 locs (cells + 1) (slots + N') Qf (F0 m (pc + 3) ls (.ref q :: rest))) :
    W p l e R s m args below meth c H locs cells slots Qf (F0 m pc ls (.int n :: rest)) := by
  refine va_newq hx hb hown (hg _ hcl) hao hK hP hD hS hA hn hN hbytes hcells hslots hdg (fun q cB H1 hK1 hP1 hD1 hS1 => ?_)
  obtain ⟨-, -, -, -, -, e1⟩ := (hK.2 k (cA k, .object C) hk).2
  obtain ⟨-, -, -, -, -, e2⟩ := (hK1.2 4 (cB, .object C) rfl).2
  have : cB = cA k := Option.some.inj (e2.symm.trans e1)
  subst this
  exact kk q H1 hP1 hD1 hS1
end MAKE
