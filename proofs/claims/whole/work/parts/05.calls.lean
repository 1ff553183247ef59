/-! Calls -/
def AC (G : Gp) : Nat → Prop := fun q => ∃ a, a < 67 ∧ q = G.2.2.1 a
def rmD (d : Nat) : Room := { frames := d, cells := 0, slots := 0, locals := 60 * d }
def wsM (M : Mth) : List Cond := Cond.code M.1 M.2.1 M.2.2.1 M.2.2.2.1 :: gtbl
def QcE (G : Gp) (Q : Option Value → Mem → Prop) : Array Value → State → Outcome → State → Prop := fun _ st o t => (∃ (v : Option Value) (τ : Mem), o = .returned v ∧ (v = none ∨ ∃ x : Int32, v = some (.int x)) ∧ Q v τ ∧ va_P G.2.1 vwCl (wsOf G τ) t.heap) ∧ va_F (AC G) st t
def PcE (G : Gp) (av : List Value) (σ : Mem) : Array Value → State → Prop := va_Pc (av.map (cv G.2.2.1)) (fun U => va_P G.2.1 vwCl (wsOf G σ) U.heap ∧ va_K G.2.1 vwCl (tysW G) U ∧ (∀ w ∈ nestWs, va_Nw w U) ∧ (∀ i j, i < 67 → j < 67 → G.2.2.1 i = G.2.2.1 j → i = j))
def ent (M : Mth) (av : List Value) : Lc := av.map some ++ List.replicate (M.2.2.1 - av.length) none
def MOk (M : Mth) : Prop := plainFor M.1 = true ∧ Cond.code M.1 M.2.1 M.2.2.1 M.2.2.2.1 ∈ gtbl ∧ Cond.initialized M.1.cls ∈ gtbl ∧ (M.1.cls ≠ "java/lang/invoke/MethodHandle" ∧ M.1.cls ≠ "java/lang/invoke/VarHandle") ∧ M.2.2.1 ≤ 30 ∧ (∀ G s A, M.2.2.2.2 G s A)
def pushv (v : Option Value) (r : List Value) : List Value := match v with
  | none => r
  | some x => x :: r
def c1 (v : Value) : Prop := match v with
  | .int _ => True
  | .ref _ => True
  | _ => False
def okr : List Value → Nat → Prop
  | [], _ => True
  | _ :: _, 0 => False
  | v :: r, n + 1 => c1 v ∧ okr r n
theorem c1_cat {v : Value} (h : c1 v) : v.category = 1 := by cases v <;> first | rfl | exact h.elim
theorem lg_get : ∀ (l : Lc) (i : Nat), lg l i = (l[i]?).join
  | [], _ => rfl
  | _ :: _, 0 => rfl
  | _ :: l, n + 1 => by rw [lg, lg_get l n]; rfl
theorem lg_sl_1 (ad : Nat → Nat) : ∀ (av : List Value), (∀ v ∈ av, c1 v) → lg_sl (av.map (cv ad)) = av.map (fun v => Slot.val (cv ad v))
  | [], _ => rfl
  | v :: l, h => by
    have h1 := lg_sl_1 ad l (fun x hx => h x (List.mem_cons_of_mem _ hx))
    have h2 : (cv ad v).category = 1 := by rw [cv_cat]; exact c1_cat (h v List.mem_cons_self)
    have h3 : ¬ (cv ad v).category = 2 := by omega
    unfold lg_sl at h1 ⊢
    rw [List.map_cons, List.flatMap_cons, h1, if_neg h3]
    rfl
theorem ent_Lr {ad : Nat → Nat} {M : Mth} {av : List Value} (hn : av.length ≤ M.2.2.1) (hc : ∀ v ∈ av, c1 v) :
    Lr ad (ent M av) ((lg_sl (av.map (cv ad)) ++ List.replicate (M.2.2.1 - (lg_sl (av.map (cv ad))).length) Slot.unset).toArray) M.2.2.1 := by
  have hl : (lg_sl (av.map (cv ad))).length = av.length := by rw [lg_sl_1 ad av hc, List.length_map]
  have hh := lv_entry (av.map (cv ad)) (n := M.2.2.1) (by rw [hl]; exact hn)
  refine ⟨hh.1, hh.2.1, by simp only [ent, List.length_append, List.length_map, List.length_replicate]; omega, fun i v hi => ?_⟩
  rw [lg_get] at hi
  have hia : i < av.length := by
    rcases Nat.lt_or_ge i av.length with q | q
    · exact q
    · exfalso
      unfold ent at hi
      rw [List.getElem?_append_right (by simpa using q), List.getElem?_replicate] at hi
      split at hi <;> simp at hi
  unfold ent at hi
  rw [List.getElem?_append_left (by simpa using hia), List.getElem?_map, List.getElem?_eq_getElem hia] at hi
  have hv : av[i] = v := by simpa using hi
  refine ⟨c1_cat (hc v (by rw [← hv]; exact List.getElem_mem hia)), ?_⟩
  rw [List.getElem?_toArray, List.getElem?_append_left (by rw [hl]; exact hia), lg_sl_1 ad av hc, List.getElem?_map, List.getElem?_eq_getElem hia, hv]
  rfl
theorem nest_on : ∀ w ∈ nestWs, w.onTables = true := by
  intro w h
  obtain ⟨-, h2⟩ := List.mem_filter.mp h
  cases w <;> first | rfl | cases h2
theorem nest_warm {s U : State} (hW : s.WarmedH U.vm) : ∀ w ∈ nestWs, va_Nw w s → va_Nw w U := by
  intro w h hz
  obtain ⟨-, h2⟩ := List.mem_filter.mp h
  cases w <;> first | exact va_Nw.warmM hW hz | cases h2
theorem PcE_blind (G : Gp) (av : List Value) (σ : Mem) : FrameBlind (PcE G av σ) := by
  intro a U g mk q
  obtain ⟨q0, qP, qK, qN, qi⟩ := q
  exact ⟨q0, qP, va_K.moved (u := U) (U := U.calling g mk a) (Vm.Alike.refl U.vm) qK, fun w hw => va_Nw.same (u := U) (nest_on w hw) rfl (qN w hw), qi⟩
theorem wsM_good {M : Mth} (h : MOk M) : GoodIn gtbl (wsM M) := by
  intro w hw
  rcases List.mem_cons.mp hw with rfl | hw
  · exact ⟨h.2.1, good_of_word (gt_good _ h.2.1)⟩
  · exact ⟨hw, good_of_word (gt_good _ hw)⟩
theorem Met.ofWF {l : Launch} {y : MethodName} {ws ws' : List Cond} {rm : Room} {Pc : Array Value → State → Prop} {Qc : Array Value → State → Outcome → State → Prop} {mc ms : Nat} {free : Addr → Prop} {cc : ByteArray} {maxL : Nat} {ret : Option FieldType}
    (hy : plainFor y = true) (hw : ws = Cond.code y cc maxL ret :: ws')
    (body : ∀ p e s m args below meth c s₁, BodyLoose p l y (headSpec ws rm) cc maxL ret e s m args below meth c s₁ → c.maxLocals = maxL → Pc args s →
      W p l e (headSpec ws rm).room s m args below meth c s.heap [] 0 0 (MQ below Qc args s mc ms free) (entryFrame m args maxL)) : Met l y ws rm Pc Qc mc ms free := by
  refine MetFree.of_bodySF (code := cc) (maxLocals := maxL) (ret := ret) hy ?_ ?_
  · intro args s m h hn
    obtain ⟨meth, c, h1, h2, h3, h4, h5, h6, -, -⟩ := Cond.code_spec hn (atoms_spec (ws := ws) h _ (by rw [hw]; exact List.mem_cons_self))
    exact ⟨meth, c, h1, h2, h3, h4, h5, h6⟩
  · intro p e s m args below meth c s₁ B hml hP _
    have hh0 : s₁.heap = s.heap := by rw [B.state]; rfl
    obtain ⟨t, a1, o, b1, b2, b3⟩ := body p e s m args below meth c s₁ B hml hP s₁ hh0 (Stand.of_body B)
    exact ⟨t, o, a1, b1, b2, ⟨b3.1, b3.2⟩⟩
theorem E.met {G : Gp} {M : Mth} {d : Nat} {av : List Value} {σ : Mem} {Q : Option Value → Mem → Prop} (hM : MOk M) (hn : av.length ≤ M.2.2.1) (hc : ∀ v ∈ av, c1 v) (h : E G M d 0 (ent M av) [] σ Q) :
    Met G.1 M.1 (wsM M) (rmD d) (PcE G av σ) (QcE G Q) 0 0 (AC G) := by
  refine Met.ofWF (cc := M.2.1) (maxL := M.2.2.1) (ret := M.2.2.2.1) hM.1 rfl ?_
  intro p e s m args below meth c s₁ B hml hv
  obtain ⟨rfl, hP, hK, hN, hi⟩ := hv
  have hts := atoms_spec (ws := wsM M) B.pre
  have hlocks := B.notSynchronized
  rw [lg_entry_eq]
  refine h p e _ s m _ below meth c 0 0 (AC G) _ ⟨B.exec, B.bytes, hml, findClass_of_methodNamed B.named, fun w hw => hts w (List.mem_cons_of_mem _ hw), hN, hK, ⟨Nat.le_refl _, Nat.le_refl _, Nat.le_refl _, Nat.le_refl _⟩, fun a ha => ⟨a, ha, rfl⟩, hi, hM.2.2.2.2.2 G s _⟩ ?_ s.heap [] _ hP va_S.rf (ent_Lr hn hc)
  intro v τ H locs pc' sl hq hP' hS hret
  rcases hret with ⟨rfl, hr0, hd⟩ | ⟨x, rfl, hd, hr0 | ⟨hr0, hx⟩⟩
  · exact W.vret B.exec B.bytes (B.returns.trans hr0) (fun t ht _ => ⟨⟨none, τ, rfl, Or.inl rfl, hq, by rw [ht]; exact hP'⟩, hS.F ht⟩) hS.2.2 hd
  · exact W.iret B.exec B.bytes (B.returns.trans hr0) (fun t ht _ => ⟨⟨_, τ, rfl, Or.inr ⟨x, rfl⟩, hq, by rw [ht]; exact hP'⟩, hS.F ht⟩) hS.2.2 hd
  · exact W.zret (ty := .boolean) B.exec B.bytes (B.returns.trans hr0) (by rcases hx with rfl | rfl <;> rfl) (fun t ht _ => ⟨⟨_, τ, rfl, Or.inr ⟨x, rfl⟩, hq, by rw [ht]; exact hP'⟩, hS.F ht⟩) hS.2.2 hd
section VCE
variable {p : Program} {l : Launch} {e : Env} {R : Room} {s : State} {m : MethodId} {args : Array Value} {below : List Frame} {meth : Method} {c : Code} {H : Heap} {locs : List Loc} {cells slots : Nat} {Qf : State → Prop}
variable {pc : Nat} {sl : Array Slot} {rest st0 : List Value} {a : Array Value} {A : Nat → Prop} {H0 : Heap} {free : Addr → Prop}
theorem va_callE {G : Gp} {Q : Option Value → Mem → Prop} (hr : va_Run p l e R s m args below meth c H locs cells slots 0 0 (F0 m pc sl st0) rest (QcE G Q a) free) (hS : va_S A H0 H locs) (hA : ∀ q, AC G q → A q) (hf : ∀ q, free q → A q)
    (kk : ∀ (v : Option Value) (τ : Mem) (H1 : Heap) (locs1 : List Loc), (v = none ∨ ∃ x : Int32, v = some (.int x)) → Q v τ → va_P G.2.1 vwCl (wsOf G τ) H1 → va_S A H0 H1 locs1 → W p l e R s m args below meth c H1 locs1 cells slots Qf (F0 m (pc + 3) sl (v.toList ++ rest))) : W p l e R s m args below meth c H locs cells slots Qf (F0 m pc sl st0) := by
  intro T hT X
  obtain ⟨v, st₀, t, T', L, h0, X', hL, e1, e2, ⟨⟨v', τ, hv, hi, hp, hb⟩, hz, hk⟩, st⟩ := hr T hT X
  cases hv
  rw [h0] at hz hk
  obtain ⟨t2, a1, b1⟩ := kk v τ T'.heap (locs ++ L) hi hp (by rw [e1]; exact hb)
    ⟨Nat.le_trans hS.1 (by rw [e1]; exact hz), fun q h1 h2 => by rw [e1, hk q (Nat.lt_of_lt_of_le h1 hS.1) (fun z => h2 (hA q z))]; exact hS.2.1 q h1 h2, fun q hq => by
      rcases List.mem_append.mp hq with h | h
      · exact hS.2.2 q h
      · exact hf _ (hL q h)⟩ T' rfl X'
  exact ⟨t2, st t2 a1, b1⟩
end VCE
section CALLS
variable {G : Gp} {M M' : Mth} {d pc : Nat} {Q : Option Value → Mem → Prop} {K : Kt} {b : ByteArray} {own : String} {ls : Lc} {σ : Mem} {av rest : List Value} {idx n : Nat}
theorem push_map {ad : Nat → Nat} {v : Option Value} (h : v = none ∨ ∃ x : Int32, v = some (.int x)) (rest : List Value) : v.toList ++ rest.map (cv ad) = (pushv v rest).map (cv ad) := by
  rcases h with rfl | ⟨x, rfl⟩ <;> rfl
theorem cat_room (ad : Nat → Nat) : ∀ (r : List Value) (n : Nat), okr r n → ((r.map (cv ad)).map fun v => v.category).sum ≤ n
  | [], _, _ => by simp
  | _ :: _, 0, h => h.elim
  | v :: l, n + 1, h => by
    have h1 := cat_room ad l n h.2
    have h2 : (cv ad v).category = 1 := by rw [cv_cat]; exact c1_cat h.1
    simp only [List.map_cons, List.sum_cons]
    omega
def CWords (own : String) (idx : Nat) (M' : Mth) (n : Nat) : Prop := Cond.methodLink own idx M'.1 ∈ gtbl ∧ (parseMethodDescriptor M'.1.desc).map (fun d => d.parameters.length) = some n
theorem callB_E {R : Room} {s : State} {args : Array Value} (hM : MOk M') (hts : ∀ w ∈ gtbl, w.before args s = true) (hw : CWords own idx M' n) (hR : d + 1 ≤ R.frames ∧ 60 * (d + 1) ≤ R.locals) :
    CallB R s args own idx M'.1 M'.2.1 M'.2.2.1 M'.2.2.2.1 (wsM M') (rmD d) 0 0 n :=
  callB_of n hts (wsM_good hM) rfl rfl rfl (hts _ hM.2.2.1) (hts _ hw.1) ⟨hM.2.2.2.1.1, hM.2.2.2.1.2, hw.2⟩ ⟨hR.1, by have h1 := hM.2.2.2.2.1; have h2 := hR.2; show 8 + (M'.2.2.1 + 11) + 60 * d ≤ R.locals; omega⟩
theorem E_callV (hb : M.2.1 = b) (ho : M.1.cls = own) (hM : MOk M') (hw : CWords own idx M' n) {C : String} {T : u_T} {N ci a : Nat} (hin : Cond.instanceMethod M'.1 ∈ gtbl) (hse : Cond.selects C M'.1 M'.1 ∈ gtbl) (hcl : vwCl[ci]? = some (C, T, N)) (hd : decode b pc = .ok (.invokevirtual idx, 3))
    (hk : (sh a).1 = ci + 4) (hav : ∀ v ∈ av, c1 v) (hlen : av.length = n) (hmax : n + 1 ≤ M'.2.2.1) (hr : okr rest 8) (h : E G M' d 0 (ent M' (.ref a :: av)) [] σ (fun v τ => E G M (d + 1) (pc + 3) ls (pushv v rest) τ Q)) : E G M (d + 1) pc ls (av.reverse ++ .ref a :: rest) σ Q := by
  subst hb
  subst ho
  intro p e R s m args below meth c cells slots A Qf C0 hr0 H locs sl hP hS hL
  have hci : ci < 6 := (List.getElem?_eq_some_iff.mp hcl).1
  have ha : a < 67 := sh_lt hk (by omega)
  have hMet := E.met hM (by simp only [List.length_cons]; omega) (fun v hv => by rcases List.mem_cons.mp hv with rfl | hv; exact trivial; exact hav v hv) h
  have hK := C0.2.2.2.2.2.2.1
  have e0 : List.map (cv G.2.2.1) (av.reverse ++ .ref a :: rest) = (av.map (cv G.2.2.1)).reverse ++ .ref (G.2.2.1 a) :: rest.map (cv G.2.2.1) := by simp [cv]
  rw [e0]
  have hroom := cat_room G.2.2.1 rest 8 hr
  refine va_callE (va_runV (As := av.map (cv G.2.2.1)) (rest := rest.map (cv G.2.2.1)) ⟨C0.1, C0.2.1, C0.2.2.1, C0.2.2.2.1, C0.2.2.2.2.1⟩ hMet ⟨callB_E hM C0.2.2.2.2.1 hw ⟨C0.2.2.2.2.2.2.2.1.1, C0.2.2.2.2.2.2.2.1.2.1⟩, C0.2.2.2.2.1 _ hin, C0.2.2.2.2.1 _ hse⟩
    ⟨PcE_blind G _ σ, va_recv hK hP hcl (show (wsOf G σ)[a]? = some (G.2.2.1 a, .inr (ci, _)) by rw [ws_at G σ ha, cell_o G hk]), fun U hU hW => ⟨rfl, by rw [hU]; exact hP, va_K.moved hW.alike hK, fun w hw => nest_warm hW w hw (C0.2.2.2.2.2.1 w hw), C0.2.2.2.2.2.2.2.2.2.1⟩⟩ rfl (by rw [List.length_map]; exact hlen) hL.1 rfl (lv_room (by omega)) hd ⟨C0.2.2.2.2.2.2.2.1.2.2.1, C0.2.2.2.2.2.2.2.1.2.2.2⟩) hS (fun q hq => by obtain ⟨x, hx, rfl⟩ := hq; exact C0.2.2.2.2.2.2.2.2.1 x hx) (fun q hq => by obtain ⟨x, hx, rfl⟩ := hq; exact C0.2.2.2.2.2.2.2.2.1 x hx) (fun v τ H1 locs1 hi hq hP1 hS1 => ?_)
  rw [push_map hi]
  exact hq p e R s m args below meth c cells slots A Qf C0 hr0 H1 locs1 sl hP1 hS1 hL
theorem E_callS (hb : M.2.1 = b) (ho : M.1.cls = own) (hM : MOk M') (hw : CWords own idx M' n) (hst : Cond.static M'.1 ∈ gtbl) (hd : decode b pc = .ok (.invokestatic idx, 3))
    (hav : ∀ v ∈ av, c1 v) (hlen : av.length = n) (hmax : n ≤ M'.2.2.1) (hr : okr rest 8) (h : E G M' d 0 (ent M' av) [] σ (fun v τ => E G M (d + 1) (pc + 3) ls (pushv v rest) τ Q)) : E G M (d + 1) pc ls (av.reverse ++ rest) σ Q := by
  subst hb
  subst ho
  intro p e R s m args below meth c cells slots A Qf C0 hr0 H locs sl hP hS hL
  have hMet := E.met hM (by omega) hav h
  have hK := C0.2.2.2.2.2.2.1
  have e0 : List.map (cv G.2.2.1) (av.reverse ++ rest) = (av.map (cv G.2.2.1)).reverse ++ rest.map (cv G.2.2.1) := by simp
  rw [e0]
  have hroom := cat_room G.2.2.1 rest 8 hr
  refine va_callE (va_runS (As := av.map (cv G.2.2.1)) (rest := rest.map (cv G.2.2.1)) ⟨C0.1, C0.2.1, C0.2.2.1, C0.2.2.2.1, C0.2.2.2.2.1⟩ hMet ⟨callB_E hM C0.2.2.2.2.1 hw ⟨C0.2.2.2.2.2.2.2.1.1, C0.2.2.2.2.2.2.2.1.2.1⟩, C0.2.2.2.2.1 _ hst⟩
    ⟨PcE_blind G _ σ, fun U hU hW => ⟨rfl, by rw [hU]; exact hP, va_K.moved hW.alike hK, fun w hw => nest_warm hW w hw (C0.2.2.2.2.2.1 w hw), C0.2.2.2.2.2.2.2.2.2.1⟩⟩ rfl (by rw [List.length_map]; exact hlen) hL.1 rfl (lv_room (by omega)) hd ⟨C0.2.2.2.2.2.2.2.1.2.2.1, C0.2.2.2.2.2.2.2.1.2.2.2⟩) hS (fun q hq => by obtain ⟨x, hx, rfl⟩ := hq; exact C0.2.2.2.2.2.2.2.2.1 x hx) (fun q hq => by obtain ⟨x, hx, rfl⟩ := hq; exact C0.2.2.2.2.2.2.2.2.1 x hx) (fun v τ H1 locs1 hi hq hP1 hS1 => ?_)
  rw [push_map hi]
  exact hq p e R s m args below meth c cells slots A Qf C0 hr0 H1 locs1 sl hP1 hS1 hL
def NWords (own : String) (idx : Nat) (M' : Mth) (n : Nat) : Prop := (∃ host, Cond.methodLinkNest own idx M'.1 host ∈ nestWs) ∧ (parseMethodDescriptor M'.1.desc).map (fun d => d.parameters.length) = some n
theorem E_callN (hb : M.2.1 = b) (ho : M.1.cls = own) (hM : MOk M') (hw : NWords own idx M' n) (hst : Cond.static M'.1 ∈ gtbl) (hd : decode b pc = .ok (.invokestatic idx, 3))
    (hav : ∀ v ∈ av, c1 v) (hlen : av.length = n) (hmax : n ≤ M'.2.2.1) (hr : okr rest 8) (h : E G M' d 0 (ent M' av) [] σ (fun v τ => E G M (d + 1) (pc + 3) ls (pushv v rest) τ Q)) : E G M (d + 1) pc ls (av.reverse ++ rest) σ Q := by
  subst hb
  subst ho
  intro p e R s m args below meth c cells slots A Qf C0 hr0 H locs sl hP hS hL
  obtain ⟨⟨host, hnest⟩, hdesc⟩ := hw
  have hMet := E.met hM (by omega) hav h
  have hK := C0.2.2.2.2.2.2.1
  have e0 : List.map (cv G.2.2.1) (av.reverse ++ rest) = (av.map (cv G.2.2.1)).reverse ++ rest.map (cv G.2.2.1) := by simp
  rw [e0]
  have hroom := cat_room G.2.2.1 rest 8 hr
  have hR1 := C0.2.2.2.2.2.2.2.1.1
  have hR2 := C0.2.2.2.2.2.2.2.1.2.1
  have hm := hM.2.2.2.2.1
  refine va_callE (va_runSN (As := av.map (cv G.2.2.1)) (rest := rest.map (cv G.2.2.1)) ⟨C0.1, C0.2.1, C0.2.2.1, C0.2.2.2.1, C0.2.2.2.2.1⟩ hMet ⟨va_cnB n C0.2.2.2.2.1 (wsM_good hM) rfl rfl rfl (C0.2.2.2.2.2.1 _ hnest) (C0.2.2.2.2.1 _ hM.2.2.1) ⟨hM.2.2.2.1.1, hM.2.2.2.1.2, hdesc⟩ ⟨hR1, by show 8 + (M'.2.2.1 + 11) + 60 * d ≤ R.locals; omega⟩, C0.2.2.2.2.1 _ hst, trivial⟩
    ⟨PcE_blind G _ σ, fun U hU hW => ⟨rfl, by rw [hU]; exact hP, va_K.moved hW.alike hK, fun w hw => nest_warm hW w hw (C0.2.2.2.2.2.1 w hw), C0.2.2.2.2.2.2.2.2.2.1⟩⟩ rfl (by rw [List.length_map]; exact hlen) hL.1 rfl (lv_room (by omega)) hd ⟨C0.2.2.2.2.2.2.2.1.2.2.1, C0.2.2.2.2.2.2.2.1.2.2.2⟩) hS (fun q hq => by obtain ⟨x, hx, rfl⟩ := hq; exact C0.2.2.2.2.2.2.2.2.1 x hx) (fun q hq => by obtain ⟨x, hx, rfl⟩ := hq; exact C0.2.2.2.2.2.2.2.2.1 x hx) (fun v τ H1 locs1 hi hq hP1 hS1 => ?_)
  rw [push_map hi]
  exact hq p e R s m args below meth c cells slots A Qf C0 hr0 H1 locs1 sl hP1 hS1 hL
/-- System.arraycopy of int rows -/
def o_acopy (K : Kt) (ls : Lc) (stk : List Value) (σ : Mem) : Prop := match stk with
  | .int n :: .int dp :: .ref a :: .int sp :: .ref a0 :: r => (sh a).1 = 0 ∧ (sh a0).1 = 0 ∧ ¬ sp < 0 ∧ ¬ dp < 0 ∧ ¬ n < 0 ∧ sp.toNatClampNeg + n.toNatClampNeg ≤ (sh a0).2.1 ∧ dp.toNatClampNeg + n.toNatClampNeg ≤ (sh a).2.1 ∧ okr r 8 ∧ K ls r (va_up σ a (va_cpy (σ a0) (σ a) sp.toNatClampNeg dp.toNatClampNeg n.toNatClampNeg))
  | _ => False
theorem N_acopy (hb : M.2.1 = b) (ho : M.1.cls = own) (hw : Cond.methodLink own idx arraycopyName ∈ gtbl ∧ Cond.native arraycopyName ∈ gtbl ∧ Cond.static arraycopyName ∈ gtbl ∧ Cond.initialized "java/lang/System" ∈ gtbl) (hd : decode b pc = .ok (.invokestatic idx, 3)) (kk : Ent G M (d + 1) (pc + 3) Q K) : Ent G M (d + 1) pc Q (o_acopy K) := by
  intro ls stk σ h
  subst hb
  subst ho
  unfold o_acopy at h
  split at h
  · rename_i n dp a sp a0 r
    obtain ⟨h1, h2, h3, h4, h5, h6, h7, h8, h⟩ := h
    have ha : a < 67 := sh_lt h1 (by omega)
    have ha0 : a0 < 67 := sh_lt h2 (by omega)
    intro p e R s m args below meth c cells slots A Qf C hr H locs sl hP hS hL
    have hroom := cat_room G.2.2.1 r 8 h8
    have hR1 := C.2.2.2.2.2.2.2.1.1
    have hR2 := C.2.2.2.2.2.2.2.1.2.1
    refine va_copyi (ty := .int) C.1 C.2.1 (C.2.2.1.trans hL.1.symm) C.2.2.2.1 (C.2.2.2.2.1 _ hw.1) (C.2.2.2.2.1 _ hw.2.1) (C.2.2.2.2.1 _ hw.2.2.1) (C.2.2.2.2.1 _ hw.2.2.2) C.2.2.2.2.2.2.1 hP (ws_D C.2.2.2.2.2.2.2.2.1 C.2.2.2.2.2.2.2.2.2.1 σ) hS a0 a 0 0 (by rw [ws_at G σ ha0, cell_i G h2]) (by rw [ws_at G σ ha, cell_i G h1]) rfl rfl rfl h3 h4 h5 h6 h7 (fun _ _ => rfl) (by omega) (by show _ + (7 + 11) ≤ _; omega) hd (fun H1 locs1 hP1 _ hS1 => ?_)
    rw [ws_set (row := va_cpy (σ a0) (σ a) sp.toNatClampNeg dp.toNatClampNeg n.toNatClampNeg) ha (cell_i G h1 _)] at hP1
    exact kk _ _ _ h p e R s m args below meth c cells slots A Qf C hr H1 locs1 sl hP1 hS1 hL
  · exact h.elim
/-- the law's own script -/
def ScrZ (L : Nat) (xs : Nat → Int32) : Gp → State → (Nat → Prop) → Prop := fun G s A => va_X (G.2.2.1 1000) L xs s s.heap ∧ G.2.2.1 1000 < s.heap.size ∧ ¬ A (G.2.2.1 1000)
def o_sld (L : Nat) (xs : Nat → Int32) (K : Kt) (ls : Lc) (stk : List Value) (σ : Mem) : Prop := match stk with
  | .int i :: .ref a :: r => a = 1000 ∧ vp_in i L ∧ K ls (.int (xs i.toNatClampNeg) :: r) σ
  | _ => False
theorem N_sld {L : Nat} {xs : Nat → Int32} (hb : M.2.1 = b) (hz : M.2.2.2.2 = ScrZ L xs) (hd : decode b pc = .ok (.iaload, 1)) (kk : Ent G M d (pc + 1) Q K) : Ent G M d pc Q (o_sld L xs K) := by
  intro ls stk σ h
  subst hb
  unfold o_sld at h
  split at h
  · rename_i i a r
    obtain ⟨rfl, h2, h⟩ := h
    intro p e R s m args below meth c cells slots A Qf C hr H locs sl hP hS hL
    have hz2 := C.2.2.2.2.2.2.2.2.2.2
    rw [hz] at hz2
    exact va_sld C.1 C.2.1 hz2.1 hz2.2.1 hz2.2.2 hS h2 hd (kk _ _ _ h p e R s m args below meth c cells slots A Qf C hr H locs sl hP hS hL)
  · exact h.elim
def o_slen (L : Nat) (K : Kt) (ls : Lc) (stk : List Value) (σ : Mem) : Prop := match stk with
  | .ref a :: r => a = 1000 ∧ K ls (.int (nI L) :: r) σ
  | _ => False
theorem N_slen {L : Nat} {xs : Nat → Int32} (hb : M.2.1 = b) (hz : M.2.2.2.2 = ScrZ L xs) (hd : decode b pc = .ok (.arraylength, 1)) (kk : Ent G M d (pc + 1) Q K) : Ent G M d pc Q (o_slen L K) := by
  intro ls stk σ h
  subst hb
  unfold o_slen at h
  split at h
  · rename_i a r
    obtain ⟨rfl, h⟩ := h
    intro p e R s m args below meth c cells slots A Qf C hr H locs sl hP hS hL
    have hz2 := C.2.2.2.2.2.2.2.2.2.2
    rw [hz] at hz2
    exact va_slen C.1 C.2.1 hz2.1 hz2.2.1 hz2.2.2 hS hd (kk _ _ _ h p e R s m args below meth c cells slots A Qf C hr H locs sl hP hS hL)
  · exact h.elim

def o_cV0 (G : Gp) (d : Nat) (M' : Mth) (pad ci : Nat) (K : Kt) (ls : Lc) (stk : List Value) (σ : Mem) : Prop := match stk with
  | .ref a :: r => (sh a).1 = ci + 4 ∧ okr r 8 ∧ E G M' d 0 (some (.ref a) :: List.replicate pad none) [] σ (fun v τ => K ls (pushv v r) τ)
  | _ => False
theorem N_cV0 (hb : M.2.1 = b) (ho : M.1.cls = own) {pad : Nat} (hp : M'.2.2.1 = 1 + pad) (hM : MOk M') (hw : CWords own idx M' 0) {C : String} {T : u_T} {N ci : Nat} (hin : Cond.instanceMethod M'.1 ∈ gtbl) (hse : Cond.selects C M'.1 M'.1 ∈ gtbl) (hcl : vwCl[ci]? = some (C, T, N)) (hd : decode b pc = .ok (.invokevirtual idx, 3)) (kk : Ent G M (d + 1) (pc + 3) Q K) : Ent G M (d + 1) pc Q (o_cV0 G d M' pad ci K) := by
  intro ls stk σ h
  unfold o_cV0 at h
  split at h
  · rename_i  a r
    obtain ⟨hk, hr, h⟩ := h
    refine E_callV (av := []) (rest := r) hb ho hM hw hin hse hcl hd hk (fun v hv => by cases hv) rfl (by omega) hr ?_
    have e1 : ent M' (.ref a :: []) = some (.ref a) :: List.replicate pad none := by
      unfold ent
      rw [hp, show 1 + pad - (Value.ref a :: []).length = pad from by simp only [List.length_cons, List.length_nil]; omega]
      rfl
    rw [e1]
    exact h.mono (fun v τ q => kk _ _ _ q)
  · exact h.elim

def o_cV1 (G : Gp) (d : Nat) (M' : Mth) (pad ci : Nat) (K : Kt) (ls : Lc) (stk : List Value) (σ : Mem) : Prop := match stk with
  | x1 :: .ref a :: r => (sh a).1 = ci + 4 ∧ c1 x1 ∧ okr r 8 ∧ E G M' d 0 (some (.ref a) :: some x1 :: List.replicate pad none) [] σ (fun v τ => K ls (pushv v r) τ)
  | _ => False
theorem N_cV1 (hb : M.2.1 = b) (ho : M.1.cls = own) {pad : Nat} (hp : M'.2.2.1 = 2 + pad) (hM : MOk M') (hw : CWords own idx M' 1) {C : String} {T : u_T} {N ci : Nat} (hin : Cond.instanceMethod M'.1 ∈ gtbl) (hse : Cond.selects C M'.1 M'.1 ∈ gtbl) (hcl : vwCl[ci]? = some (C, T, N)) (hd : decode b pc = .ok (.invokevirtual idx, 3)) (kk : Ent G M (d + 1) (pc + 3) Q K) : Ent G M (d + 1) pc Q (o_cV1 G d M' pad ci K) := by
  intro ls stk σ h
  unfold o_cV1 at h
  split at h
  · rename_i x1 a r
    obtain ⟨hk, hx1, hr, h⟩ := h
    refine E_callV (av := [x1]) (rest := r) hb ho hM hw hin hse hcl hd hk (fun v hv => by simp only [List.mem_cons, List.not_mem_nil, or_false] at hv; rcases hv with rfl <;> assumption) rfl (by omega) hr ?_
    have e1 : ent M' (.ref a :: [x1]) = some (.ref a) :: some x1 :: List.replicate pad none := by
      unfold ent
      rw [hp, show 2 + pad - (Value.ref a :: [x1]).length = pad from by simp only [List.length_cons, List.length_nil]; omega]
      rfl
    rw [e1]
    exact h.mono (fun v τ q => kk _ _ _ q)
  · exact h.elim

def o_cV2 (G : Gp) (d : Nat) (M' : Mth) (pad ci : Nat) (K : Kt) (ls : Lc) (stk : List Value) (σ : Mem) : Prop := match stk with
  | x2 :: x1 :: .ref a :: r => (sh a).1 = ci + 4 ∧ c1 x1 ∧ c1 x2 ∧ okr r 8 ∧ E G M' d 0 (some (.ref a) :: some x1 :: some x2 :: List.replicate pad none) [] σ (fun v τ => K ls (pushv v r) τ)
  | _ => False
theorem N_cV2 (hb : M.2.1 = b) (ho : M.1.cls = own) {pad : Nat} (hp : M'.2.2.1 = 3 + pad) (hM : MOk M') (hw : CWords own idx M' 2) {C : String} {T : u_T} {N ci : Nat} (hin : Cond.instanceMethod M'.1 ∈ gtbl) (hse : Cond.selects C M'.1 M'.1 ∈ gtbl) (hcl : vwCl[ci]? = some (C, T, N)) (hd : decode b pc = .ok (.invokevirtual idx, 3)) (kk : Ent G M (d + 1) (pc + 3) Q K) : Ent G M (d + 1) pc Q (o_cV2 G d M' pad ci K) := by
  intro ls stk σ h
  unfold o_cV2 at h
  split at h
  · rename_i x2 x1 a r
    obtain ⟨hk, hx1, hx2, hr, h⟩ := h
    refine E_callV (av := [x1, x2]) (rest := r) hb ho hM hw hin hse hcl hd hk (fun v hv => by simp only [List.mem_cons, List.not_mem_nil, or_false] at hv; rcases hv with rfl | rfl <;> assumption) rfl (by omega) hr ?_
    have e1 : ent M' (.ref a :: [x1, x2]) = some (.ref a) :: some x1 :: some x2 :: List.replicate pad none := by
      unfold ent
      rw [hp, show 3 + pad - (Value.ref a :: [x1, x2]).length = pad from by simp only [List.length_cons, List.length_nil]; omega]
      rfl
    rw [e1]
    exact h.mono (fun v τ q => kk _ _ _ q)
  · exact h.elim

def o_cV3 (G : Gp) (d : Nat) (M' : Mth) (pad ci : Nat) (K : Kt) (ls : Lc) (stk : List Value) (σ : Mem) : Prop := match stk with
  | x3 :: x2 :: x1 :: .ref a :: r => (sh a).1 = ci + 4 ∧ c1 x1 ∧ c1 x2 ∧ c1 x3 ∧ okr r 8 ∧ E G M' d 0 (some (.ref a) :: some x1 :: some x2 :: some x3 :: List.replicate pad none) [] σ (fun v τ => K ls (pushv v r) τ)
  | _ => False
theorem N_cV3 (hb : M.2.1 = b) (ho : M.1.cls = own) {pad : Nat} (hp : M'.2.2.1 = 4 + pad) (hM : MOk M') (hw : CWords own idx M' 3) {C : String} {T : u_T} {N ci : Nat} (hin : Cond.instanceMethod M'.1 ∈ gtbl) (hse : Cond.selects C M'.1 M'.1 ∈ gtbl) (hcl : vwCl[ci]? = some (C, T, N)) (hd : decode b pc = .ok (.invokevirtual idx, 3)) (kk : Ent G M (d + 1) (pc + 3) Q K) : Ent G M (d + 1) pc Q (o_cV3 G d M' pad ci K) := by
  intro ls stk σ h
  unfold o_cV3 at h
  split at h
  · rename_i x3 x2 x1 a r
    obtain ⟨hk, hx1, hx2, hx3, hr, h⟩ := h
    refine E_callV (av := [x1, x2, x3]) (rest := r) hb ho hM hw hin hse hcl hd hk (fun v hv => by simp only [List.mem_cons, List.not_mem_nil, or_false] at hv; rcases hv with rfl | rfl | rfl <;> assumption) rfl (by omega) hr ?_
    have e1 : ent M' (.ref a :: [x1, x2, x3]) = some (.ref a) :: some x1 :: some x2 :: some x3 :: List.replicate pad none := by
      unfold ent
      rw [hp, show 4 + pad - (Value.ref a :: [x1, x2, x3]).length = pad from by simp only [List.length_cons, List.length_nil]; omega]
      rfl
    rw [e1]
    exact h.mono (fun v τ q => kk _ _ _ q)
  · exact h.elim

def o_cV4 (G : Gp) (d : Nat) (M' : Mth) (pad ci : Nat) (K : Kt) (ls : Lc) (stk : List Value) (σ : Mem) : Prop := match stk with
  | x4 :: x3 :: x2 :: x1 :: .ref a :: r => (sh a).1 = ci + 4 ∧ c1 x1 ∧ c1 x2 ∧ c1 x3 ∧ c1 x4 ∧ okr r 8 ∧ E G M' d 0 (some (.ref a) :: some x1 :: some x2 :: some x3 :: some x4 :: List.replicate pad none) [] σ (fun v τ => K ls (pushv v r) τ)
  | _ => False
theorem N_cV4 (hb : M.2.1 = b) (ho : M.1.cls = own) {pad : Nat} (hp : M'.2.2.1 = 5 + pad) (hM : MOk M') (hw : CWords own idx M' 4) {C : String} {T : u_T} {N ci : Nat} (hin : Cond.instanceMethod M'.1 ∈ gtbl) (hse : Cond.selects C M'.1 M'.1 ∈ gtbl) (hcl : vwCl[ci]? = some (C, T, N)) (hd : decode b pc = .ok (.invokevirtual idx, 3)) (kk : Ent G M (d + 1) (pc + 3) Q K) : Ent G M (d + 1) pc Q (o_cV4 G d M' pad ci K) := by
  intro ls stk σ h
  unfold o_cV4 at h
  split at h
  · rename_i x4 x3 x2 x1 a r
    obtain ⟨hk, hx1, hx2, hx3, hx4, hr, h⟩ := h
    refine E_callV (av := [x1, x2, x3, x4]) (rest := r) hb ho hM hw hin hse hcl hd hk (fun v hv => by simp only [List.mem_cons, List.not_mem_nil, or_false] at hv; rcases hv with rfl | rfl | rfl | rfl <;> assumption) rfl (by omega) hr ?_
    have e1 : ent M' (.ref a :: [x1, x2, x3, x4]) = some (.ref a) :: some x1 :: some x2 :: some x3 :: some x4 :: List.replicate pad none := by
      unfold ent
      rw [hp, show 5 + pad - (Value.ref a :: [x1, x2, x3, x4]).length = pad from by simp only [List.length_cons, List.length_nil]; omega]
      rfl
    rw [e1]
    exact h.mono (fun v τ q => kk _ _ _ q)
  · exact h.elim

def o_cV5 (G : Gp) (d : Nat) (M' : Mth) (pad ci : Nat) (K : Kt) (ls : Lc) (stk : List Value) (σ : Mem) : Prop := match stk with
  | x5 :: x4 :: x3 :: x2 :: x1 :: .ref a :: r => (sh a).1 = ci + 4 ∧ c1 x1 ∧ c1 x2 ∧ c1 x3 ∧ c1 x4 ∧ c1 x5 ∧ okr r 8 ∧ E G M' d 0 (some (.ref a) :: some x1 :: some x2 :: some x3 :: some x4 :: some x5 :: List.replicate pad none) [] σ (fun v τ => K ls (pushv v r) τ)
  | _ => False
theorem N_cV5 (hb : M.2.1 = b) (ho : M.1.cls = own) {pad : Nat} (hp : M'.2.2.1 = 6 + pad) (hM : MOk M') (hw : CWords own idx M' 5) {C : String} {T : u_T} {N ci : Nat} (hin : Cond.instanceMethod M'.1 ∈ gtbl) (hse : Cond.selects C M'.1 M'.1 ∈ gtbl) (hcl : vwCl[ci]? = some (C, T, N)) (hd : decode b pc = .ok (.invokevirtual idx, 3)) (kk : Ent G M (d + 1) (pc + 3) Q K) : Ent G M (d + 1) pc Q (o_cV5 G d M' pad ci K) := by
  intro ls stk σ h
  unfold o_cV5 at h
  split at h
  · rename_i x5 x4 x3 x2 x1 a r
    obtain ⟨hk, hx1, hx2, hx3, hx4, hx5, hr, h⟩ := h
    refine E_callV (av := [x1, x2, x3, x4, x5]) (rest := r) hb ho hM hw hin hse hcl hd hk (fun v hv => by simp only [List.mem_cons, List.not_mem_nil, or_false] at hv; rcases hv with rfl | rfl | rfl | rfl | rfl <;> assumption) rfl (by omega) hr ?_
    have e1 : ent M' (.ref a :: [x1, x2, x3, x4, x5]) = some (.ref a) :: some x1 :: some x2 :: some x3 :: some x4 :: some x5 :: List.replicate pad none := by
      unfold ent
      rw [hp, show 6 + pad - (Value.ref a :: [x1, x2, x3, x4, x5]).length = pad from by simp only [List.length_cons, List.length_nil]; omega]
      rfl
    rw [e1]
    exact h.mono (fun v τ q => kk _ _ _ q)
  · exact h.elim

def o_cV6 (G : Gp) (d : Nat) (M' : Mth) (pad ci : Nat) (K : Kt) (ls : Lc) (stk : List Value) (σ : Mem) : Prop := match stk with
  | x6 :: x5 :: x4 :: x3 :: x2 :: x1 :: .ref a :: r => (sh a).1 = ci + 4 ∧ c1 x1 ∧ c1 x2 ∧ c1 x3 ∧ c1 x4 ∧ c1 x5 ∧ c1 x6 ∧ okr r 8 ∧ E G M' d 0 (some (.ref a) :: some x1 :: some x2 :: some x3 :: some x4 :: some x5 :: some x6 :: List.replicate pad none) [] σ (fun v τ => K ls (pushv v r) τ)
  | _ => False
theorem N_cV6 (hb : M.2.1 = b) (ho : M.1.cls = own) {pad : Nat} (hp : M'.2.2.1 = 7 + pad) (hM : MOk M') (hw : CWords own idx M' 6) {C : String} {T : u_T} {N ci : Nat} (hin : Cond.instanceMethod M'.1 ∈ gtbl) (hse : Cond.selects C M'.1 M'.1 ∈ gtbl) (hcl : vwCl[ci]? = some (C, T, N)) (hd : decode b pc = .ok (.invokevirtual idx, 3)) (kk : Ent G M (d + 1) (pc + 3) Q K) : Ent G M (d + 1) pc Q (o_cV6 G d M' pad ci K) := by
  intro ls stk σ h
  unfold o_cV6 at h
  split at h
  · rename_i x6 x5 x4 x3 x2 x1 a r
    obtain ⟨hk, hx1, hx2, hx3, hx4, hx5, hx6, hr, h⟩ := h
    refine E_callV (av := [x1, x2, x3, x4, x5, x6]) (rest := r) hb ho hM hw hin hse hcl hd hk (fun v hv => by simp only [List.mem_cons, List.not_mem_nil, or_false] at hv; rcases hv with rfl | rfl | rfl | rfl | rfl | rfl <;> assumption) rfl (by omega) hr ?_
    have e1 : ent M' (.ref a :: [x1, x2, x3, x4, x5, x6]) = some (.ref a) :: some x1 :: some x2 :: some x3 :: some x4 :: some x5 :: some x6 :: List.replicate pad none := by
      unfold ent
      rw [hp, show 7 + pad - (Value.ref a :: [x1, x2, x3, x4, x5, x6]).length = pad from by simp only [List.length_cons, List.length_nil]; omega]
      rfl
    rw [e1]
    exact h.mono (fun v τ q => kk _ _ _ q)
  · exact h.elim

def o_cS1 (G : Gp) (d : Nat) (M' : Mth) (pad : Nat) (K : Kt) (ls : Lc) (stk : List Value) (σ : Mem) : Prop := match stk with
  | x1 :: r => c1 x1 ∧ okr r 8 ∧ E G M' d 0 (some x1 :: List.replicate pad none) [] σ (fun v τ => K ls (pushv v r) τ)
  | _ => False

theorem N_cS1 (hb : M.2.1 = b) (ho : M.1.cls = own) {pad : Nat} (hp : M'.2.2.1 = 1 + pad) (hM : MOk M') (hw : CWords own idx M' 1) (hst : Cond.static M'.1 ∈ gtbl) (hd : decode b pc = .ok (.invokestatic idx, 3)) (kk : Ent G M (d + 1) (pc + 3) Q K) : Ent G M (d + 1) pc Q (o_cS1 G d M' pad K) := by
  intro ls stk σ h
  unfold o_cS1 at h
  split at h
  · rename_i x1 r
    obtain ⟨hx1, hr, h⟩ := h
    refine E_callS (av := [x1]) (rest := r) hb ho hM hw hst hd (fun v hv => by simp only [List.mem_cons, List.not_mem_nil, or_false] at hv; subst hv; assumption) rfl (by omega) hr ?_
    have e1 : ent M' [x1] = some x1 :: List.replicate pad none := by
      unfold ent
      rw [hp, show 1 + pad - ([x1] : List Value).length = pad from by simp only [List.length_cons, List.length_nil]; omega]
      rfl
    rw [e1]
    exact h.mono (fun v τ q => kk _ _ _ q)
  · exact h.elim

theorem N_cN1 (hb : M.2.1 = b) (ho : M.1.cls = own) {pad : Nat} (hp : M'.2.2.1 = 1 + pad) (hM : MOk M') (hw : NWords own idx M' 1) (hst : Cond.static M'.1 ∈ gtbl) (hd : decode b pc = .ok (.invokestatic idx, 3)) (kk : Ent G M (d + 1) (pc + 3) Q K) : Ent G M (d + 1) pc Q (o_cS1 G d M' pad K) := by
  intro ls stk σ h
  unfold o_cS1 at h
  split at h
  · rename_i x1 r
    obtain ⟨hx1, hr, h⟩ := h
    refine E_callN (av := [x1]) (rest := r) hb ho hM hw hst hd (fun v hv => by simp only [List.mem_cons, List.not_mem_nil, or_false] at hv; subst hv; assumption) rfl (by omega) hr ?_
    have e1 : ent M' [x1] = some x1 :: List.replicate pad none := by
      unfold ent
      rw [hp, show 1 + pad - ([x1] : List Value).length = pad from by simp only [List.length_cons, List.length_nil]; omega]
      rfl
    rw [e1]
    exact h.mono (fun v τ q => kk _ _ _ q)
  · exact h.elim

def o_cS2 (G : Gp) (d : Nat) (M' : Mth) (pad : Nat) (K : Kt) (ls : Lc) (stk : List Value) (σ : Mem) : Prop := match stk with
  | x2 :: x1 :: r => c1 x1 ∧ c1 x2 ∧ okr r 8 ∧ E G M' d 0 (some x1 :: some x2 :: List.replicate pad none) [] σ (fun v τ => K ls (pushv v r) τ)
  | _ => False

theorem N_cS2 (hb : M.2.1 = b) (ho : M.1.cls = own) {pad : Nat} (hp : M'.2.2.1 = 2 + pad) (hM : MOk M') (hw : CWords own idx M' 2) (hst : Cond.static M'.1 ∈ gtbl) (hd : decode b pc = .ok (.invokestatic idx, 3)) (kk : Ent G M (d + 1) (pc + 3) Q K) : Ent G M (d + 1) pc Q (o_cS2 G d M' pad K) := by
  intro ls stk σ h
  unfold o_cS2 at h
  split at h
  · rename_i x2 x1 r
    obtain ⟨hx1, hx2, hr, h⟩ := h
    refine E_callS (av := [x1, x2]) (rest := r) hb ho hM hw hst hd (fun v hv => by simp only [List.mem_cons, List.not_mem_nil, or_false] at hv; rcases hv with rfl | rfl <;> assumption) rfl (by omega) hr ?_
    have e1 : ent M' [x1, x2] = some x1 :: some x2 :: List.replicate pad none := by
      unfold ent
      rw [hp, show 2 + pad - ([x1, x2] : List Value).length = pad from by simp only [List.length_cons, List.length_nil]; omega]
      rfl
    rw [e1]
    exact h.mono (fun v τ q => kk _ _ _ q)
  · exact h.elim

theorem N_cN2 (hb : M.2.1 = b) (ho : M.1.cls = own) {pad : Nat} (hp : M'.2.2.1 = 2 + pad) (hM : MOk M') (hw : NWords own idx M' 2) (hst : Cond.static M'.1 ∈ gtbl) (hd : decode b pc = .ok (.invokestatic idx, 3)) (kk : Ent G M (d + 1) (pc + 3) Q K) : Ent G M (d + 1) pc Q (o_cS2 G d M' pad K) := by
  intro ls stk σ h
  unfold o_cS2 at h
  split at h
  · rename_i x2 x1 r
    obtain ⟨hx1, hx2, hr, h⟩ := h
    refine E_callN (av := [x1, x2]) (rest := r) hb ho hM hw hst hd (fun v hv => by simp only [List.mem_cons, List.not_mem_nil, or_false] at hv; rcases hv with rfl | rfl <;> assumption) rfl (by omega) hr ?_
    have e1 : ent M' [x1, x2] = some x1 :: some x2 :: List.replicate pad none := by
      unfold ent
      rw [hp, show 2 + pad - ([x1, x2] : List Value).length = pad from by simp only [List.length_cons, List.length_nil]; omega]
      rfl
    rw [e1]
    exact h.mono (fun v τ q => kk _ _ _ q)
  · exact h.elim

def o_cS3 (G : Gp) (d : Nat) (M' : Mth) (pad : Nat) (K : Kt) (ls : Lc) (stk : List Value) (σ : Mem) : Prop := match stk with
  | x3 :: x2 :: x1 :: r => c1 x1 ∧ c1 x2 ∧ c1 x3 ∧ okr r 8 ∧ E G M' d 0 (some x1 :: some x2 :: some x3 :: List.replicate pad none) [] σ (fun v τ => K ls (pushv v r) τ)
  | _ => False

theorem N_cS3 (hb : M.2.1 = b) (ho : M.1.cls = own) {pad : Nat} (hp : M'.2.2.1 = 3 + pad) (hM : MOk M') (hw : CWords own idx M' 3) (hst : Cond.static M'.1 ∈ gtbl) (hd : decode b pc = .ok (.invokestatic idx, 3)) (kk : Ent G M (d + 1) (pc + 3) Q K) : Ent G M (d + 1) pc Q (o_cS3 G d M' pad K) := by
  intro ls stk σ h
  unfold o_cS3 at h
  split at h
  · rename_i x3 x2 x1 r
    obtain ⟨hx1, hx2, hx3, hr, h⟩ := h
    refine E_callS (av := [x1, x2, x3]) (rest := r) hb ho hM hw hst hd (fun v hv => by simp only [List.mem_cons, List.not_mem_nil, or_false] at hv; rcases hv with rfl | rfl | rfl <;> assumption) rfl (by omega) hr ?_
    have e1 : ent M' [x1, x2, x3] = some x1 :: some x2 :: some x3 :: List.replicate pad none := by
      unfold ent
      rw [hp, show 3 + pad - ([x1, x2, x3] : List Value).length = pad from by simp only [List.length_cons, List.length_nil]; omega]
      rfl
    rw [e1]
    exact h.mono (fun v τ q => kk _ _ _ q)
  · exact h.elim

theorem N_cN3 (hb : M.2.1 = b) (ho : M.1.cls = own) {pad : Nat} (hp : M'.2.2.1 = 3 + pad) (hM : MOk M') (hw : NWords own idx M' 3) (hst : Cond.static M'.1 ∈ gtbl) (hd : decode b pc = .ok (.invokestatic idx, 3)) (kk : Ent G M (d + 1) (pc + 3) Q K) : Ent G M (d + 1) pc Q (o_cS3 G d M' pad K) := by
  intro ls stk σ h
  unfold o_cS3 at h
  split at h
  · rename_i x3 x2 x1 r
    obtain ⟨hx1, hx2, hx3, hr, h⟩ := h
    refine E_callN (av := [x1, x2, x3]) (rest := r) hb ho hM hw hst hd (fun v hv => by simp only [List.mem_cons, List.not_mem_nil, or_false] at hv; rcases hv with rfl | rfl | rfl <;> assumption) rfl (by omega) hr ?_
    have e1 : ent M' [x1, x2, x3] = some x1 :: some x2 :: some x3 :: List.replicate pad none := by
      unfold ent
      rw [hp, show 3 + pad - ([x1, x2, x3] : List Value).length = pad from by simp only [List.length_cons, List.length_nil]; omega]
      rfl
    rw [e1]
    exact h.mono (fun v τ q => kk _ _ _ q)
  · exact h.elim

def o_cS4 (G : Gp) (d : Nat) (M' : Mth) (pad : Nat) (K : Kt) (ls : Lc) (stk : List Value) (σ : Mem) : Prop := match stk with
  | x4 :: x3 :: x2 :: x1 :: r => c1 x1 ∧ c1 x2 ∧ c1 x3 ∧ c1 x4 ∧ okr r 8 ∧ E G M' d 0 (some x1 :: some x2 :: some x3 :: some x4 :: List.replicate pad none) [] σ (fun v τ => K ls (pushv v r) τ)
  | _ => False

theorem N_cS4 (hb : M.2.1 = b) (ho : M.1.cls = own) {pad : Nat} (hp : M'.2.2.1 = 4 + pad) (hM : MOk M') (hw : CWords own idx M' 4) (hst : Cond.static M'.1 ∈ gtbl) (hd : decode b pc = .ok (.invokestatic idx, 3)) (kk : Ent G M (d + 1) (pc + 3) Q K) : Ent G M (d + 1) pc Q (o_cS4 G d M' pad K) := by
  intro ls stk σ h
  unfold o_cS4 at h
  split at h
  · rename_i x4 x3 x2 x1 r
    obtain ⟨hx1, hx2, hx3, hx4, hr, h⟩ := h
    refine E_callS (av := [x1, x2, x3, x4]) (rest := r) hb ho hM hw hst hd (fun v hv => by simp only [List.mem_cons, List.not_mem_nil, or_false] at hv; rcases hv with rfl | rfl | rfl | rfl <;> assumption) rfl (by omega) hr ?_
    have e1 : ent M' [x1, x2, x3, x4] = some x1 :: some x2 :: some x3 :: some x4 :: List.replicate pad none := by
      unfold ent
      rw [hp, show 4 + pad - ([x1, x2, x3, x4] : List Value).length = pad from by simp only [List.length_cons, List.length_nil]; omega]
      rfl
    rw [e1]
    exact h.mono (fun v τ q => kk _ _ _ q)
  · exact h.elim

theorem N_cN4 (hb : M.2.1 = b) (ho : M.1.cls = own) {pad : Nat} (hp : M'.2.2.1 = 4 + pad) (hM : MOk M') (hw : NWords own idx M' 4) (hst : Cond.static M'.1 ∈ gtbl) (hd : decode b pc = .ok (.invokestatic idx, 3)) (kk : Ent G M (d + 1) (pc + 3) Q K) : Ent G M (d + 1) pc Q (o_cS4 G d M' pad K) := by
  intro ls stk σ h
  unfold o_cS4 at h
  split at h
  · rename_i x4 x3 x2 x1 r
    obtain ⟨hx1, hx2, hx3, hx4, hr, h⟩ := h
    refine E_callN (av := [x1, x2, x3, x4]) (rest := r) hb ho hM hw hst hd (fun v hv => by simp only [List.mem_cons, List.not_mem_nil, or_false] at hv; rcases hv with rfl | rfl | rfl | rfl <;> assumption) rfl (by omega) hr ?_
    have e1 : ent M' [x1, x2, x3, x4] = some x1 :: some x2 :: some x3 :: some x4 :: List.replicate pad none := by
      unfold ent
      rw [hp, show 4 + pad - ([x1, x2, x3, x4] : List Value).length = pad from by simp only [List.length_cons, List.length_nil]; omega]
      rfl
    rw [e1]
    exact h.mono (fun v τ q => kk _ _ _ q)
  · exact h.elim

end CALLS
