/-! A call whose throw is caught in the calling method -/
section HANDLER
variable {p : Program} {l : Launch} {e : Env} {R : Room} {s : State} {m : MethodId} {args : Array Value} {below : List Frame} {meth : Method} {c : Code} {y : MethodName} {cc : ByteArray} {nL : Nat} {ret : Option FieldType} {xt : List (Nat × Nat × Nat × Nat)} {D : va_G} {AC : Nat → ClassId} {lo : Nat}
  {post : Option Value → Wst → Prop} {thr : String → Wst → Prop} {w : Wst} {k n pc : Nat} {lv : List (Nat × Value)} {st rest : List Value}
  {y2 : MethodName} {hd2 : Cond} {rm2 : Room} {av : List Value} {post2 : Option Value → Wst → Prop} {thr2 : String → Wst → Prop} {maxL2 idx : Nat}
/-- thrown here: an object of the class E, at the address q -/
def GX (p : Program) (l : Launch) (e : Env) (R : Room) (s : State) (m : MethodId) (args : Array Value) (below : List Frame) (meth : Method) (c : Code) (nL : Nat) (D : va_G) (lo : Nat) (post : Option Value → Wst → Prop) (thr : String → Wst → Prop) (w : Wst) (k n pc : Nat) (lv : List (Nat × Value)) (rest : List Value) (E : String) : Prop :=
  ∀ (H : Heap) (locs : List Loc) (ls : Array Slot) (cells slots : Nat) (q : Nat) (cell : Cell), HB s R nL D lo w k n lv H locs ls cells slots → H[q]? = some cell → cell.vm = .none → s.vm.findClass E = some cell.cls → vx_W p l e R s m args below meth c H locs cells slots (MQX below (QC D lo post thr s) s R.cells R.slots lo) (F0 m pc ls rest) q
theorem gx_catch {E name : String} (hX : Cx p s m args meth c y cc nL ret xt D AC lo) (pre : List ExceptionTableEntry) (x : ExceptionTableEntry) (suf : List ExceptionTableEntry) (hsplit : tableOf xt = pre ++ x :: suf)
    (hpass : ∀ z ∈ pre, covers z pc = false ∨ (z.catchType ≠ 0 ∧ ∃ nm : String, Cond.classLink y.cls z.catchType nm ∈ TT ∧ va_Nc E nm s)) (hx : covers x pc = true) (h0 : x.catchType ≠ 0) (hlink : Cond.classLink y.cls x.catchType name ∈ TT) (hcast : Cond.castable E name ∈ NWL)
    (kk : ∀ q : Nat, G p l e R s m args below meth c nL D lo post thr w k n x.handlerPc lv [.ref q]) : GX p l e R s m args below meth c nL D lo post thr w k n pc lv rest E := by
  intro H locs ls cells slots q cell h h1 h2 h3
  have ht : c.exceptionTable.toList = pre ++ x :: suf := by
    rw [← hsplit, ← hX.2.2.2.2.2.2]
    exact (table_eq _).symm
  refine vx_catch hX.own pre x suf ht (fun z hz => ?_) hx h0 (hX.ts _ hlink) (va_Nw.use rfl (hX.2.1.2.1 _ hcast)) h1 h2 h3 (kk q H locs ls cells slots h)
  rcases hpass z hz with a | ⟨a, nm, b, d⟩
  · exact Or.inl a
  · exact Or.inr ⟨a, nm, hX.ts _ b, d⟩
theorem g_callVH {i ci Nf a : Nat} {fs : List Value} {C : String} {Tf : u_T} {As : List Value} (hX : Cx p s m args meth c y cc nL ret xt D AC lo) (hC : Ct l y2 hd2 rm2 D AC lo (.ref a :: As) w post2 thr2) (hhd : hd2 ∈ TT) (hok : HdOk hd2 y2 maxL2) (hini : Cond.initialized y2.cls ∈ TT) (hlink : Cond.methodLink y.cls idx y2 ∈ TT) (hinst : Cond.instanceMethod y2 ∈ TT) (hsel : Cond.selects C y2 y2 ∈ TT)
    (hi : i < w.1) (ha : w.2.1 i = a) (he : w.2.2 i = .inr (ci, fs)) (hc : CL[ci]? = some (C, Tf, Nf))
    (hd : (y2.cls ≠ "java/lang/invoke/MethodHandle" ∧ y2.cls ≠ "java/lang/invoke/VarHandle") ∧ (parseMethodDescriptor y2.desc).map (fun d => d.parameters.length) = some As.length)
    (hR : rm2.frames + 1 ≤ R.frames ∧ 8 + (maxL2 + 11) + rm2.locals ≤ R.locals) (hroom : (rest.map fun v => v.category).sum ≤ 8) (hdg : decode cc pc = .ok (.invokevirtual idx, 3)) (hst : st = As.reverse ++ .ref a :: rest)
    (kr : ∀ v w', post2 v w' → G p l e R s m args below meth c nL D lo post thr w' k n (pc + 3) lv (v.toList ++ rest)) (kt : ∀ E w', thr2 E w' → GX p l e R s m args below meth c nL D lo post thr w' k n pc lv rest E) :
    G p l e R s m args below meth c nL D lo post thr w (k + rm2.cells) (n + rm2.slots) pc lv st := by
  subst ha
  intro H locs ls cells slots h T hT S
  obtain ⟨cellB, hcB, hoB, hclB⟩ := va_recv hX.2.1.1 h.2.1.1 hc (ww_get hi he)
  obtain ⟨mk, methM, hnamed, hmethM, hstM, habM⟩ := Cond.instanceMethod_spec (hX.ts _ hinst)
  obtain ⟨mk', methM', cM, hnamed', hmethM', -, -, hsigM⟩ := hok.spec (hX.ts _ hhd)
  cases hnamed.symm.trans hnamed'
  cases hmethM.symm.trans hmethM'
  obtain ⟨c2, r2, m2, q1, q2, q3, q4, kP, hkP, hkPi⟩ := Cond.selects_spec (hX.ts _ hsel)
  cases hclB.symm.trans q1
  cases (State.methodFound?_of_named hnamed hd.1).symm.trans q2
  cases hnamed.symm.trans q3
  have hselP : selectMethod e.platform s.vm cellB.cls mk = .method mk := by rw [Launch.admits_selectMethod S.admits]; exact q4
  obtain ⟨vm₁, S₁, hstep₁⟩ := S.invokevirtual hX.1.1 hX.own (hX.ts _ hlink) hnamed hmethM hstM hkP hkPi hd.1 (a := w.2.1 i) (cell := cellB) (by rw [hT]; exact hcB)
    (fun z h => by rw [h] at hoB; cases hoB) hselP hmethM habM hkP hkPi (g := F0 m pc ls st) rfl (argsL := As) (rest := rest)
    (by have h2 := hd.2; rw [hsigM] at h2; exact (Option.some.inj h2).symm) hst (by rw [hX.1.2.1]; exact hdg)
  obtain ⟨hl, hP, hS, hcl, hsl⟩ := h
  have hb : c.code = cc := hX.1.2.1
  have hml : c.maxLocals = nL := hX.1.2.2.1
  have hn' := S₁.named hnamed
  have hmt : ∃ methY cY, (T.setVm vm₁).vm.method? mk = some methY ∧ methY.code = some cY ∧ cY.maxLocals = maxL2 := by
    obtain ⟨mk', methM, cM, h1, h2, h3, h4, -⟩ := hok.spec (TT_warm (hd := hd2) hX.ts hhd hd2 List.mem_cons_self args (T.setVm vm₁) S₁.warmed)
    cases hn'.symm.trans h1
    exact ⟨methM, cM, h2, h3, h4⟩
  obtain ⟨t, T', L, o, S', e1, e2, hL, hq, hcase⟩ := backX (Wt := 8) (len := 3) hC PcX.blind hR.1 hR.2 (TT_warm hX.ts hhd) (hX.ts _ hini) S₁ (g := { F0 m pc ls st with stack := rest }) (ig := .invokevirtual idx) rfl
    (by show ls.size = c.maxLocals; rw [hml]; exact hl.1) (by rw [hb]; exact hdg) (lv_room (m := m) (pc := pc) (ls := ls) (rest := st) hroom) hn' hmt
    ⟨rfl, by show wP D lo w T.heap; rw [hT]; exact hP, hX.2.1.to hS hT S₁.warmed, by show lo ≤ T.heap.size; rw [hT]; exact Nat.le_trans hX.2.2.2.2.2.1 hS.1⟩ (by omega) (by omega)
  obtain ⟨w', hw', hS', hor⟩ := hq
  have hS1 : va_S (loA lo) H T'.heap [] := by rw [e1, ← hT]; exact hS'
  rcases hcase with ⟨v, rfl, stp⟩ | ⟨x, rfl, stp⟩
  · rcases hor with ⟨v', hv, hp⟩ | ⟨_, _, _, hv, _⟩
    · cases hv
      obtain ⟨t2, a1, b1⟩ := kr v w' hp T'.heap (locs ++ L) ls (cells + rm2.cells) (slots + rm2.slots) ⟨hl, by rw [e1]; exact hw', va_S_trans hS hS1 hL, by omega, by omega⟩ T' rfl S'
      exact ⟨t2, hstep₁ _ fun acts => by rw [doInvoke_state]; exact stp.trans a1, b1⟩
    · cases hv
  · rcases hor with ⟨v', hv, hp⟩ | ⟨a, cls, cell, hv, hp, g1, g2, g3⟩
    · cases hv
    · cases hv
      have ha : s.vm.Alike vm₁ := S₁.warmed.alike
      obtain ⟨t2, a1, b1⟩ := kt cls w' hp T'.heap (locs ++ L) ls (cells + rm2.cells) (slots + rm2.slots) x cell ⟨hl, by rw [e1]; exact hw', va_S_trans hS hS1 hL, by omega, by omega⟩ (by rw [e1]; exact g1) g2 (by rw [← ha.findClass]; exact g3) T' rfl S'
      exact ⟨t2, hstep₁ _ fun acts => by rw [doInvoke_state]; exact stp.trans a1, b1⟩
end HANDLER
