/-! Calls over the judgement G -/
theorem va_S_trans {A : Nat → Prop} {H0 H H1 : Heap} {locs L : List Loc} (h : va_S A H0 H locs) (h1 : va_S A H H1 []) (hL : ∀ q ∈ L, A q.base) : va_S A H0 H1 (locs ++ L) :=
  ⟨Nat.le_trans h.1 h1.1, fun q hq hn => (h1.2.1 q (Nat.lt_of_lt_of_le hq h.1) hn).trans (h.2.1 q hq hn), fun q hq => by
    rcases List.mem_append.mp hq with a | a
    · exact h.2.2 q a
    · exact hL q a⟩
theorem va_S_nil {A : Nat → Prop} {H0 H : Heap} {locs : List Loc} (h : va_S A H0 H locs) : va_S A H0 H [] := ⟨h.1, h.2.1, fun _ z => by cases z⟩
theorem HdOk.spec {hd : Cond} {y : MethodName} {maxL : Nat} {args : Array Value} {s : State} (h : HdOk hd y maxL) (hb : hd.before args s = true) :
    ∃ mk methM cM, s.methodNamed? y = some mk ∧ s.vm.method? mk = some methM ∧ methM.code = some cM ∧ cM.maxLocals = maxL ∧ parseMethodDescriptor y.desc = some methM.sig := by
  rcases h with ⟨b, ret, rfl⟩ | ⟨b, ret, hh, rfl⟩
  · obtain ⟨mk, hn⟩ := Cond.code_named hb
    obtain ⟨methM, cM, h1, h2, -, h3, -, -, -, h4⟩ := Cond.code_spec hn hb
    exact ⟨mk, methM, cM, hn, h1, h2, h3, h4⟩
  · obtain ⟨mk, methM, cM, hn, h1, h2, -, h3, -, -, -, h4⟩ := Cond.codeWith_spec hb
    exact ⟨mk, methM, cM, hn, h1, h2, h3, h4⟩
theorem TT_good {w : Cond} (h : w ∈ TT) : (w.onTables && w.keeps) = true ∨ ∃ ty, w = .arrayClass ty := good_of_word (List.mem_filter.mp h).2
theorem TT_warm {s : State} {args : Array Value} (hts : ∀ w ∈ TT, w.before args s = true) {hd : Cond} (hh : hd ∈ TT) : ∀ w ∈ hd :: TT, ∀ (a' : Array Value) (U : State), s.WarmedH U.vm → w.before a' U = true := by
  intro w hw a' U hW
  have hm : w ∈ TT := by
    rcases List.mem_cons.mp hw with e | h
    · rw [e]; exact hh
    · exact h
  exact word_at hW (TT_good hm) (hts w hm)
section CALLS
variable {p : Program} {l : Launch} {e : Env} {R : Room} {s : State} {m : MethodId} {args : Array Value} {below : List Frame} {meth : Method} {c : Code} {y : MethodName} {cc : ByteArray} {nL : Nat} {ret : Option FieldType} {xt : List (Nat × Nat × Nat × Nat)} {D : va_G} {AC : Nat → ClassId} {lo : Nat}
  {post : Option Value → Wst → Prop} {thr : String → Wst → Prop} {w : Wst} {k n pc : Nat} {lv : List (Nat × Value)} {st rest : List Value}
  {y2 : MethodName} {hd2 : Cond} {rm2 : Room} {av : List Value} {post2 : Option Value → Wst → Prop} {thr2 : String → Wst → Prop} {maxL2 idx : Nat}
theorem Cx.ts (hX : Cx p s m args meth c y cc nL ret xt D AC lo) : ∀ w ∈ TT, w.before args s = true := hX.1.2.2.2.2
theorem Cx.own (hX : Cx p s m args meth c y cc nL ret xt D AC lo) : s.vm.findClass y.cls = some m.cls := hX.1.2.2.2.1
theorem Cx.out (hX : Cx p s m args meth c y cc nL ret [] D AC lo) (pc : Nat) : ∀ x ∈ c.exceptionTable.toList, covers x pc = false := by
  have h := hX.2.2.2.2.2.2
  intro x hx
  have : c.exceptionTable.toList = [] := List.map_eq_nil_iff.mp h
  rw [this] at hx
  cases hx
/-- behind the invoking instruction -/
theorem afterX (hX : Cx p s m args meth c y cc nL ret [] D AC lo) (hC : Ct l y2 hd2 rm2 D AC lo av w post2 thr2) (hhd : hd2 ∈ TT) (hok : HdOk hd2 y2 maxL2) (hini : Cond.initialized y2.cls ∈ TT)
    (hR : rm2.frames + 1 ≤ R.frames ∧ 8 + (maxL2 + 11) + rm2.locals ≤ R.locals) (hroom : (rest.map fun v => v.category).sum ≤ 8)
    {ig : Instr} (hdg : decode cc pc = .ok (ig, 3))
    (kr : ∀ v w', post2 v w' → G p l e R s m args below meth c nL D lo post thr w' k n (pc + 3) lv (v.toList ++ rest)) (kt : ∀ cls w', thr2 cls w' → thr cls w')
    {H : Heap} {locs : List Loc} {ls : Array Slot} {cells slots : Nat} (h : HB s R nL D lo w (k + rm2.cells) (n + rm2.slots) lv H locs ls cells slots) {T : State} (hT : T.heap = H)
    {vm₁ : Vm} (S₁ : Stand p l e R s m args below meth c (T.setVm vm₁) locs cells slots) {mk : MethodId} (hnamed : s.methodNamed? y2 = some mk)
    (hstep : ∀ target, (∀ acts, Steps p.tables e below (doInvoke e ((T.setVm vm₁).setTop { F0 m pc ls st with stack := rest }) acts mk av.toArray).1 target) → Steps p.tables e below (T.setTop (F0 m pc ls st)) target) :
    ∃ t, Steps p.tables e below (T.setTop (F0 m pc ls st)) t ∧ MQX below (QC D lo post thr s) s R.cells R.slots lo t := by
  obtain ⟨hl, hP, hS, hc, hs⟩ := h
  have hb : c.code = cc := hX.1.2.1
  have hml : c.maxLocals = nL := hX.1.2.2.1
  have hn' := S₁.named hnamed
  have hmt : ∃ methY cY, (T.setVm vm₁).vm.method? mk = some methY ∧ methY.code = some cY ∧ cY.maxLocals = maxL2 := by
    obtain ⟨mk', methM, cM, h1, h2, h3, h4, -⟩ := hok.spec (TT_warm (hd := hd2) hX.ts hhd hd2 List.mem_cons_self args (T.setVm vm₁) S₁.warmed)
    cases hn'.symm.trans h1
    exact ⟨methM, cM, h2, h3, h4⟩
  obtain ⟨t, T', L, o, S', e1, e2, hL, hq, hcase⟩ := backX (Wt := 8) (len := 3) hC PcX.blind hR.1 hR.2 (TT_warm hX.ts hhd) (hX.ts _ hini) S₁ (g := { F0 m pc ls st with stack := rest }) (ig := ig) rfl
    (by show ls.size = c.maxLocals; rw [hml]; exact hl.1) (by rw [hb]; exact hdg) (lv_room (m := m) (pc := pc) (ls := ls) (rest := st) hroom) hn' hmt
    ⟨rfl, by show wP D lo w T.heap; rw [hT]; exact hP, hX.2.1.to hS hT S₁.warmed, by show lo ≤ T.heap.size; rw [hT]; exact Nat.le_trans hX.2.2.2.2.2.1 hS.1⟩ (by omega) (by omega)
  obtain ⟨w', hw', hS', hor⟩ := hq
  have hS1 : va_S (loA lo) H T'.heap [] := by rw [e1, ← hT]; exact hS'
  rcases hcase with ⟨v, rfl, stp⟩ | ⟨x, rfl, stp⟩
  · rcases hor with ⟨v', hv, hp⟩ | ⟨_, _, _, hv, _⟩
    · cases hv
      obtain ⟨t2, a1, b1⟩ := kr v w' hp T'.heap (locs ++ L) ls (cells + rm2.cells) (slots + rm2.slots) ⟨hl, by rw [e1]; exact hw', va_S_trans hS hS1 hL, by omega, by omega⟩ T' rfl S'
      exact ⟨t2, hstep _ fun acts => by rw [doInvoke_state]; exact stp.trans a1, b1⟩
    · cases hv
  · rcases hor with ⟨v', hv, hp⟩ | ⟨a, cls, cell, hv, hp, g1, g2, g3⟩
    · cases hv
    · cases hv
      obtain ⟨hsteps, hrun, hend, hW', hsame⟩ := S'.leaveThrown x (g := { F0 m pc ls st with stack := rest }) rfl rfl rfl (hX.out pc) (hlocks := hX.2.2.1)
      refine ⟨_, hstep _ fun acts => by rw [doInvoke_state]; exact stp.trans hsteps, .threw x, hrun, hend, ⟨w', by show wP D lo w' T'.heap; rw [e1]; exact hw', va_S_nil (va_S_trans (L := []) hS hS1 (fun _ z => by cases z)), Or.inr ⟨x, cls, cell, rfl, kt cls w' hp, by show T'.heap[x]? = some cell; rw [e1]; exact g1, g2, ?_⟩⟩, locs ++ L, hW', hsame.mono (by omega) (by omega), (va_S_trans hS hS1 hL).2.2⟩
      have ha : s.vm.Alike vm₁ := S₁.warmed.alike
      rw [← ha.findClass]; exact g3
/-- invokestatic -/
theorem g_callS (hX : Cx p s m args meth c y cc nL ret [] D AC lo) (hC : Ct l y2 hd2 rm2 D AC lo av w post2 thr2) (hhd : hd2 ∈ TT) (hok : HdOk hd2 y2 maxL2) (hini : Cond.initialized y2.cls ∈ TT) (hlink : Cond.methodLink y.cls idx y2 ∈ TT) (hstat : Cond.static y2 ∈ TT)
    (hd : (y2.cls ≠ "java/lang/invoke/MethodHandle" ∧ y2.cls ≠ "java/lang/invoke/VarHandle") ∧ (parseMethodDescriptor y2.desc).map (fun d => d.parameters.length) = some av.length)
    (hR : rm2.frames + 1 ≤ R.frames ∧ 8 + (maxL2 + 11) + rm2.locals ≤ R.locals) (hroom : (rest.map fun v => v.category).sum ≤ 8) (hdg : decode cc pc = .ok (.invokestatic idx, 3)) (hst : st = av.reverse ++ rest)
    (kr : ∀ v w', post2 v w' → G p l e R s m args below meth c nL D lo post thr w' k n (pc + 3) lv (v.toList ++ rest)) (kt : ∀ cls w', thr2 cls w' → thr cls w') :
    G p l e R s m args below meth c nL D lo post thr w (k + rm2.cells) (n + rm2.slots) pc lv st := by
  intro H locs ls cells slots h T hT S
  obtain ⟨mk, methM, cM, hnamed, hmethM, -, -, hsigM⟩ := hok.spec (hX.ts _ hhd)
  have hstatic : methM.isStatic = true := Cond.static_spec hnamed hmethM (hX.ts _ hstat)
  obtain ⟨kP, hkP, -⟩ := className_of_methodNamed hnamed
  have hinitP : kP.init = .initialized := Cond.initialized_spec (findClass_of_methodNamed hnamed) hkP (hX.ts _ hini)
  obtain ⟨vm₁, S₁, hstep₁⟩ := S.invokestatic hX.1.1 hX.own (hX.ts _ hlink) hnamed hmethM hstatic hkP hinitP hd.1 (g := F0 m pc ls st) rfl (argsL := av) (rest := rest)
    (by have h2 := hd.2; rw [hsigM] at h2; exact (Option.some.inj h2).symm) hst (by rw [hX.1.2.1]; exact hdg)
  exact afterX hX hC hhd hok hini hR hroom hdg kr kt h hT S₁ hnamed hstep₁
/-- invokestatic of a nest mate's private method -/
theorem g_callSN {host : String} (hX : Cx p s m args meth c y cc nL ret [] D AC lo) (hC : Ct l y2 hd2 rm2 D AC lo av w post2 thr2) (hhd : hd2 ∈ TT) (hok : HdOk hd2 y2 maxL2) (hini : Cond.initialized y2.cls ∈ TT) (hlink : Cond.methodLinkNest y.cls idx y2 host ∈ NWL) (hstat : Cond.static y2 ∈ TT)
    (hd : (y2.cls ≠ "java/lang/invoke/MethodHandle" ∧ y2.cls ≠ "java/lang/invoke/VarHandle") ∧ (parseMethodDescriptor y2.desc).map (fun d => d.parameters.length) = some av.length)
    (hR : rm2.frames + 1 ≤ R.frames ∧ 8 + (maxL2 + 11) + rm2.locals ≤ R.locals) (hroom : (rest.map fun v => v.category).sum ≤ 8) (hdg : decode cc pc = .ok (.invokestatic idx, 3)) (hst : st = av.reverse ++ rest)
    (kr : ∀ v w', post2 v w' → G p l e R s m args below meth c nL D lo post thr w' k n (pc + 3) lv (v.toList ++ rest)) (kt : ∀ cls w', thr2 cls w' → thr cls w') :
    G p l e R s m args below meth c nL D lo post thr w (k + rm2.cells) (n + rm2.slots) pc lv st := by
  intro H locs ls cells slots h T hT S
  obtain ⟨mk, methM, cM, hnamed, hmethM, -, -, hsigM⟩ := hok.spec (hX.ts _ hhd)
  have hstatic : methM.isStatic = true := Cond.static_spec hnamed hmethM (hX.ts _ hstat)
  obtain ⟨kP, hkP, -⟩ := className_of_methodNamed hnamed
  have hinitP : kP.init = .initialized := Cond.initialized_spec (findClass_of_methodNamed hnamed) hkP (hX.ts _ hini)
  obtain ⟨vm₁, S₁, hstep₁⟩ := S.invokestaticNest hX.1.1 hX.own (va_Nw.use rfl (hX.2.1.2.1 _ hlink)) hnamed hmethM hstatic hkP hinitP hd.1 (g := F0 m pc ls st) rfl (argsL := av) (rest := rest)
    (by have h2 := hd.2; rw [hsigM] at h2; exact (Option.some.inj h2).symm) hst (by rw [hX.1.2.1]; exact hdg)
  exact afterX hX hC hhd hok hini hR hroom hdg kr kt h hT S₁ hnamed hstep₁
/-- invokevirtual on an object of the method's own class -/
theorem g_callV {i ci Nf a : Nat} {fs : List Value} {C : String} {Tf : u_T} {As : List Value} (hX : Cx p s m args meth c y cc nL ret [] D AC lo) (hC : Ct l y2 hd2 rm2 D AC lo (.ref a :: As) w post2 thr2) (hhd : hd2 ∈ TT) (hok : HdOk hd2 y2 maxL2) (hini : Cond.initialized y2.cls ∈ TT) (hlink : Cond.methodLink y.cls idx y2 ∈ TT) (hinst : Cond.instanceMethod y2 ∈ TT) (hsel : Cond.selects C y2 y2 ∈ TT)
    (hi : i < w.1) (ha : w.2.1 i = a) (he : w.2.2 i = .inr (ci, fs)) (hc : CL[ci]? = some (C, Tf, Nf))
    (hd : (y2.cls ≠ "java/lang/invoke/MethodHandle" ∧ y2.cls ≠ "java/lang/invoke/VarHandle") ∧ (parseMethodDescriptor y2.desc).map (fun d => d.parameters.length) = some As.length)
    (hR : rm2.frames + 1 ≤ R.frames ∧ 8 + (maxL2 + 11) + rm2.locals ≤ R.locals) (hroom : (rest.map fun v => v.category).sum ≤ 8) (hdg : decode cc pc = .ok (.invokevirtual idx, 3)) (hst : st = As.reverse ++ .ref a :: rest)
    (kr : ∀ v w', post2 v w' → G p l e R s m args below meth c nL D lo post thr w' k n (pc + 3) lv (v.toList ++ rest)) (kt : ∀ cls w', thr2 cls w' → thr cls w') :
    G p l e R s m args below meth c nL D lo post thr w (k + rm2.cells) (n + rm2.slots) pc lv st := by
  subst ha
  intro H locs ls cells slots h T hT S
  obtain ⟨cellB, hcB, hoB, hclB⟩ := va_recv hX.2.1.1 h.2.1.1 hc (ww_get hi he)
  obtain ⟨mk, methM, hnamed, hmethM, hstM, habM⟩ := Cond.instanceMethod_spec (hX.ts _ hinst)
  obtain ⟨mk', methM', cM, hnamed', hmethM', -, -, hsigM⟩ := hok.spec (hX.ts _ hhd)
  cases hnamed.symm.trans hnamed'
  cases hmethM.symm.trans hmethM'
  obtain ⟨c2, r2, m2, q1, q2, q3, q4, kP, hkP, hkPi⟩ := Cond.selects_spec (hX.ts _ hsel)
  cases hclB.symm.trans q1
  cases (State.methodFound?_of_named hnamed hd.1).symm.trans q2
  cases hnamed.symm.trans q3
  have hselP : selectMethod e.platform s.vm cellB.cls mk = .method mk := by rw [Launch.admits_selectMethod S.admits]; exact q4
  obtain ⟨vm₁, S₁, hstep₁⟩ := S.invokevirtual hX.1.1 hX.own (hX.ts _ hlink) hnamed hmethM hstM hkP hkPi hd.1 (a := w.2.1 i) (cell := cellB) (by rw [hT]; exact hcB)
    (fun z h => by rw [h] at hoB; cases hoB) hselP hmethM habM hkP hkPi (g := F0 m pc ls st) rfl (argsL := As) (rest := rest)
    (by have h2 := hd.2; rw [hsigM] at h2; exact (Option.some.inj h2).symm) hst (by rw [hX.1.2.1]; exact hdg)
  exact afterX hX hC hhd hok hini hR hroom hdg kr kt h hT S₁ hnamed hstep₁
/-- invokevirtual of an abstract method x: what is run is y2, of the object's own class -/
theorem g_callU {i ci Nf a : Nat} {fs : List Value} {C owner : String} {Tf : u_T} {As : List Value} {x : MethodName} (hX : Cx p s m args meth c y cc nL ret [] D AC lo) (hC : Ct l y2 hd2 rm2 D AC lo (.ref a :: As) w post2 thr2) (hhd : hd2 ∈ TT) (hok : HdOk hd2 y2 maxL2) (hini : Cond.initialized y2.cls ∈ TT) (hlink : Cond.methodLink y.cls idx x ∈ TT) (hsame : Cond.sameMethod x.cls owner x.name x.desc ∈ TT) (hdecl : Cond.declares ⟨owner, x.name, x.desc⟩ ∈ NWL) (hinst : Cond.instanceMethod y2 ∈ TT) (hsel : Cond.selects C x y2 ∈ TT)
    (hi : i < w.1) (ha : w.2.1 i = a) (he : w.2.2 i = .inr (ci, fs)) (hc : CL[ci]? = some (C, Tf, Nf))
    (hd : (owner ≠ "java/lang/invoke/MethodHandle" ∧ owner ≠ "java/lang/invoke/VarHandle") ∧ (parseMethodDescriptor x.desc).map (fun d => d.parameters.length) = some As.length)
    (hR : rm2.frames + 1 ≤ R.frames ∧ 8 + (maxL2 + 11) + rm2.locals ≤ R.locals) (hroom : (rest.map fun v => v.category).sum ≤ 8) (hdg : decode cc pc = .ok (.invokevirtual idx, 3)) (hst : st = As.reverse ++ .ref a :: rest)
    (kr : ∀ v w', post2 v w' → G p l e R s m args below meth c nL D lo post thr w' k n (pc + 3) lv (v.toList ++ rest)) (kt : ∀ cls w', thr2 cls w' → thr cls w') :
    G p l e R s m args below meth c nL D lo post thr w (k + rm2.cells) (n + rm2.slots) pc lv st := by
  subst ha
  intro H locs ls cells slots h T hT S
  obtain ⟨cellB, hcB, hoB, hclB⟩ := va_recv hX.2.1.1 h.2.1.1 hc (ww_get hi he)
  obtain ⟨r0, r, hn, hrm, hstR, hsigR⟩ := va_Decl.abs (hX.2.1.2.1 _ hdecl)
  obtain ⟨cn, ck, r1, hcn, hck, hni, hf, hn1⟩ := Cond.sameMethod_found (hX.ts _ hsame)
  cases hn.symm.trans hn1
  obtain ⟨mk, methM, hnamed, hmethM, -, habM⟩ := Cond.instanceMethod_spec (hX.ts _ hinst)
  obtain ⟨c2, r2, m2, q1, q2, q3, q4, kP, hkP, hkPi⟩ := Cond.selects_spec (hX.ts _ hsel)
  cases hclB.symm.trans q1
  cases hf.symm.trans q2
  cases hnamed.symm.trans q3
  have hselP : selectMethod e.platform s.vm cellB.cls r0 = .method mk := by rw [Launch.admits_selectMethod S.admits]; exact q4
  obtain ⟨vm₁, S₁, hstep₁⟩ := S.invokevirtualUp hX.1.1 hX.own (hX.ts _ hlink) (hX.ts _ hsame) hd.1 hn hrm hstR (a := w.2.1 i) (cell := cellB) (by rw [hT]; exact hcB)
    (fun z h => by rw [h] at hoB; cases hoB) hselP hmethM habM hkP hkPi (g := F0 m pc ls st) rfl (argsL := As) (rest := rest)
    (by have h2 := hd.2; rw [hsigR] at h2; exact (Option.some.inj h2).symm) hst (by rw [hX.1.2.1]; exact hdg)
  exact afterX hX hC hhd hok hini hR hroom hdg kr kt h hT S₁ hnamed hstep₁
/-- invokespecial of a constructor -/
theorem g_callI {a : Nat} {As : List Value} {b2 : ByteArray} (hX : Cx p s m args meth c y cc nL ret [] D AC lo) (hC : Ct l y2 (.code y2 b2 maxL2 none) rm2 D AC lo (.ref a :: As) w post2 thr2) (hhd : Cond.code y2 b2 maxL2 none ∈ TT) (hini : Cond.initialized y2.cls ∈ TT) (hlink : Cond.methodLink y.cls idx y2 ∈ TT) (hinst : Cond.instanceMethod y2 ∈ TT) (hy1 : y2.name = "<init>")
    (hd : (y2.cls ≠ "java/lang/invoke/MethodHandle" ∧ y2.cls ≠ "java/lang/invoke/VarHandle") ∧ (parseMethodDescriptor y2.desc).map (fun d => d.parameters.length) = some As.length)
    (hR : rm2.frames + 1 ≤ R.frames ∧ 8 + (maxL2 + 11) + rm2.locals ≤ R.locals) (hroom : (rest.map fun v => v.category).sum ≤ 8) (hdg : decode cc pc = .ok (.invokespecial idx, 3)) (hst : st = As.reverse ++ .ref a :: rest)
    (kr : ∀ v w', post2 v w' → G p l e R s m args below meth c nL D lo post thr w' k n (pc + 3) lv (v.toList ++ rest)) (kt : ∀ cls w', thr2 cls w' → thr cls w') :
    G p l e R s m args below meth c nL D lo post thr w (k + rm2.cells) (n + rm2.slots) pc lv st := by
  intro H locs ls cells slots h T hT S
  have hpl : e.platform.magicAccessors = ({} : Platform).magicAccessors := by rw [S.admits.platform]
  obtain ⟨mk, methM, cM, kP, vm₁, hnamed, -, -, -, -, -, -, -, hW₁, hstep₁⟩ := Steps.initColdArgs (e := e) S.here hX.1.1 S.warmed hpl hX.own hy1 hd.1 (hX.ts _ hlink) (hX.ts _ hinst) (hX.ts _ hhd) (f := F0 m pc ls st) rfl (argsL := As) (rest := rest)
    (fun sig h => by have h2 := hd.2; rw [h] at h2; exact (Option.some.inj h2).symm) hst (by rw [hX.1.2.1]; exact hdg)
  exact afterX hX hC hhd (Or.inl ⟨_, _, rfl⟩) hini hR hroom hdg kr kt h hT (S.noted hW₁) hnamed hstep₁
theorem g_callIN {a : Nat} {As : List Value} {b2 : ByteArray} {host : String} (hX : Cx p s m args meth c y cc nL ret [] D AC lo) (hC : Ct l y2 (.code y2 b2 maxL2 none) rm2 D AC lo (.ref a :: As) w post2 thr2) (hhd : Cond.code y2 b2 maxL2 none ∈ TT) (hini : Cond.initialized y2.cls ∈ TT) (hlink : Cond.methodLinkNest y.cls idx y2 host ∈ NWL) (hinst : Cond.instanceMethod y2 ∈ TT) (hy1 : y2.name = "<init>")
    (hd : (y2.cls ≠ "java/lang/invoke/MethodHandle" ∧ y2.cls ≠ "java/lang/invoke/VarHandle") ∧ (parseMethodDescriptor y2.desc).map (fun d => d.parameters.length) = some As.length)
    (hR : rm2.frames + 1 ≤ R.frames ∧ 8 + (maxL2 + 11) + rm2.locals ≤ R.locals) (hroom : (rest.map fun v => v.category).sum ≤ 8) (hdg : decode cc pc = .ok (.invokespecial idx, 3)) (hst : st = As.reverse ++ .ref a :: rest)
    (kr : ∀ v w', post2 v w' → G p l e R s m args below meth c nL D lo post thr w' k n (pc + 3) lv (v.toList ++ rest)) (kt : ∀ cls w', thr2 cls w' → thr cls w') :
    G p l e R s m args below meth c nL D lo post thr w (k + rm2.cells) (n + rm2.slots) pc lv st := by
  intro H locs ls cells slots h T hT S
  have hpl : e.platform.magicAccessors = ({} : Platform).magicAccessors := by rw [S.admits.platform]
  obtain ⟨mk, methM, cM, kP, vm₁, hnamed, -, -, -, -, -, -, -, hW₁, hstep₁⟩ := Steps.initColdArgsNest (e := e) S.here hX.1.1 S.warmed hpl hX.own hy1 hd.1 (va_Nw.use rfl (hX.2.1.2.1 _ hlink)) (hX.ts _ hinst) (hX.ts _ hhd) (f := F0 m pc ls st) rfl (argsL := As) (rest := rest)
    (fun sig h => by have h2 := hd.2; rw [h] at h2; exact (Option.some.inj h2).symm) hst (by rw [hX.1.2.1]; exact hdg)
  exact afterX hX hC hhd (Or.inl ⟨_, _, rfl⟩) hini hR hroom hdg kr kt h hT (S.noted hW₁) hnamed hstep₁
end CALLS
