/-! Worlds as numbered cells (a cell: its address, its content); the judgement G: a walk over such a world; contracts Ct of methods that come back or throw. -/
abbrev Wst : Type := Nat × (Nat → Nat) × (Nat → va_E)
def wl (N : Nat) (c : Nat → Nat × va_E) : va_W := (List.range N).map c
def ww (w : Wst) : va_W := wl w.1 (fun i => (w.2.1 i, w.2.2 i))
/-- the content of cell i is now x -/
def wS (w : Wst) (i : Nat) (x : va_E) : Wst := (w.1, w.2.1, va_up w.2.2 i x)
/-- one more cell, at the address q -/
def wN (w : Wst) (q : Nat) (x : va_E) : Wst := (w.1 + 1, va_up w.2.1 w.1 q, va_up w.2.2 w.1 x)
theorem wl_get {N i : Nat} {c : Nat → Nat × va_E} (h : i < N) : (wl N c)[i]? = some (c i) := by
  simp [wl, List.getElem?_range h]
theorem ww_get {w : Wst} {i : Nat} (h : i < w.1) {x : va_E} (hx : w.2.2 i = x) : (ww w)[i]? = some (w.2.1 i, x) := by
  rw [← hx]; exact wl_get h
theorem wl_set {N i : Nat} {c d : Nat → Nat × va_E} {x : Nat × va_E} (hi : d i = x) (ho : ∀ j, j ≠ i → d j = c j) : (wl N c).set i x = wl N d := by
  apply List.ext_getElem?
  intro j
  by_cases hj : j < N
  · rw [wl_get hj]
    by_cases e : j = i
    · subst e
      rw [List.getElem?_set_self (by simpa [wl] using hj), hi]
    · rw [List.getElem?_set_ne (fun z => e z.symm), wl_get hj, ho j e]
  · have h1 : ((wl N c).set i x)[j]? = none := List.getElem?_eq_none (by simpa [wl] using Nat.le_of_not_lt hj)
    have h2 : (wl N d)[j]? = none := List.getElem?_eq_none (by simpa [wl] using Nat.le_of_not_lt hj)
    rw [h1, h2]
theorem ww_set {w : Wst} {i : Nat} {x : va_E} : (ww w).set i (w.2.1 i, x) = ww (wS w i x) := by
  refine wl_set ?_ ?_
  · show (w.2.1 i, va_up w.2.2 i x i) = _
    rw [va_up_self]
  · intro j hj
    show (w.2.1 j, va_up w.2.2 i x j) = _
    rw [va_up_ne _ _ hj]
theorem ww_push {w : Wst} {q : Nat} {x : va_E} : ww w ++ [(q, x)] = ww (wN w q x) := by
  show (List.range w.1).map _ ++ [(q, x)] = (List.range (w.1 + 1)).map _
  rw [List.range_succ, List.map_append]
  congr 1
  · apply List.map_congr_left
    intro i hi
    have hi' : i ≠ w.1 := Nat.ne_of_lt (List.mem_range.mp hi)
    show (w.2.1 i, w.2.2 i) = (va_up w.2.1 w.1 q i, va_up w.2.2 w.1 x i)
    rw [va_up_ne _ _ hi', va_up_ne _ _ hi']
  · show [(q, x)] = [(va_up w.2.1 w.1 q w.1, va_up w.2.2 w.1 x w.1)]
    rw [va_up_self, va_up_self]
/-- the words that the tables' steady ones do not carry -/
def NW (U : State) : Prop := ∀ w ∈ NWL, va_Nw w U
theorem NW.warm {s U : State} (hW : s.WarmedH U.vm) (h : NW s) : NW U := by
  intro w hw
  have ok := NWL_ok w hw
  have hz := h w hw
  cases w <;> first | (simp [nwOk] at ok; done) | exact hz.warmM hW | exact va_Nw.warmM hW hz | exact va_Nw.warmD hW hz | exact va_Nw.warmC hW hz
abbrev loA (lo : Nat) : Nat → Prop := fun q => lo ≤ q
def tyA (AC : Nat → ClassId) : List (ClassId × FieldType) := [(AC 0, .int), (AC 1, .long), (AC 2, .boolean), (AC 3, .object "LandRegister$Deed"), (AC 4, .object "LandRegister$Parcel")]
/-- what holds of the tables, and of the cells below lo, at the start of every method -/
def SR (U : State) : Prop := ∀ x ∈ STRL, ∃ a, vk_R x.1 x.2.1 x.2.2 a U
def KK (D : va_G) (AC : Nat → ClassId) (lo : Nat) (U : State) : Prop :=
  va_K D CL (tyA AC) U ∧ NW U ∧ vx_Zq Bundle.tN "UNASSIGNED_STACK" Bundle.steD (loA lo) U U.heap ∧ vx_Zq Bundle.tN "SUPPRESSED_SENTINEL" Bundle.listD (loA lo) U U.heap ∧ SR U ∧ va_Nc "java/lang/IllegalStateException" "java/lang/IllegalArgumentException" U ∧ va_AO "LandRegister$Deed" U ∧ va_AO "LandRegister$Parcel" U
theorem KK.to {D : va_G} {AC : Nat → ClassId} {lo : Nat} {s U : State} {H : Heap} {locs : List Loc} (h : KK D AC lo s) (hS : va_S (loA lo) s.heap H locs) (hU : U.heap = H) (hW : s.WarmedH U.vm) : KK D AC lo U := by
  obtain ⟨h1, h2, h3, h4, h5, h6, h7, h8⟩ := h
  refine ⟨va_K.moved hW.alike h1, h2.warm hW, ?_, ?_, fun x hx => ?_, h6.moved hW.alike, va_AO.moved hW.alike h7, va_AO.moved hW.alike h8⟩
  · rw [hU]; exact (h3.moved hW.alike).kept hS.2.1
  · rw [hU]; exact (h4.moved hW.alike).kept hS.2.1
  · obtain ⟨a, ha⟩ := h5 x hx
    exact ⟨a, ha.warm hW⟩
/-- the world w lies in the heap H -/
def wP (D : va_G) (lo : Nat) (w : Wst) (H : Heap) : Prop := va_P D CL (ww w) H ∧ va_D (loA lo) (ww w)
/-- how a method ends: it comes back with v, or throws an object of the class cls -/
def QC (D : va_G) (lo : Nat) (post : Option Value → Wst → Prop) (thr : String → Wst → Prop) (s : State) (o : Outcome) (t : State) : Prop :=
  ∃ w : Wst, wP D lo w t.heap ∧ va_S (loA lo) s.heap t.heap [] ∧
    ((∃ v, o = .returned v ∧ post v w) ∨ (∃ (a : Addr) (cls : String) (cell : Cell), o = .threw a ∧ thr cls w ∧ t.heap[a]? = some cell ∧ cell.vm = .none ∧ s.vm.findClass cls = some cell.cls))
def MetX (l : Launch) (y : MethodName) (ws : List Cond) (rm : Room) (lo : Nat) (Pc : Array Value → State → Prop) (Qc : Array Value → State → Outcome → State → Prop) : Prop :=
  MetFree l y (headSpec ws rm) Pc (fun _ _ _ _ _ => True) (fun a st o t => Qc a st o t ∧ ∃ L, st.WarmedH t.vm ∧ st.sameButNew ({ t with vm := st.vm } : State) L rm.cells rm.slots ∧ ∀ q ∈ L, lo ≤ q.base)
def PcX (D : va_G) (AC : Nat → ClassId) (lo : Nat) (av : List Value) (w : Wst) : Array Value → State → Prop := fun a U => a = av.toArray ∧ wP D lo w U.heap ∧ KK D AC lo U ∧ lo ≤ U.heap.size
theorem PcX.blind {D : va_G} {AC : Nat → ClassId} {lo : Nat} {av : List Value} {w : Wst} : FrameBlind (PcX D AC lo av w) := by
  intro a U g mk h
  obtain ⟨h1, h2, ⟨k1, k2, k3, k4, k5, k6, k7, k8⟩, h4⟩ := h
  exact ⟨h1, h2, ⟨va_K.moved (u := U) (U := U.calling g mk a) (Vm.Alike.refl U.vm) k1, fun x hx => va_Nw.same (u := U) (U := U.calling g mk a) (by have := NWL_ok x hx; cases x <;> first | rfl | (simp [nwOk] at this; done)) rfl (k2 x hx), k3.moved (U := U.calling g mk a) (Vm.Alike.refl U.vm), k4.moved (U := U.calling g mk a) (Vm.Alike.refl U.vm), fun x hx => by
    obtain ⟨z, hz⟩ := k5 x hx
    exact ⟨z, hz.same rfl⟩, k6.moved (U := U.calling g mk a) (Vm.Alike.refl U.vm), va_AO.moved (U := U.calling g mk a) (Vm.Alike.refl U.vm) k7, va_AO.moved (U := U.calling g mk a) (Vm.Alike.refl U.vm) k8⟩, h4⟩
/-- THE CONTRACT of a method y with the code word hd: from the world w with the arguments av it comes back with 'post', or throws with 'thr' -/
def Ct (l : Launch) (y : MethodName) (hd : Cond) (rm : Room) (D : va_G) (AC : Nat → ClassId) (lo : Nat) (av : List Value) (w : Wst) (post : Option Value → Wst → Prop) (thr : String → Wst → Prop) : Prop :=
  MetX l y (hd :: TT) rm lo (PcX D AC lo av w) (fun _ st o t => QC D lo post thr st o t)
/-- what is fixed in a method's body -/
def Cx (p : Program) (s : State) (m : MethodId) (args : Array Value) (meth : Method) (c : Code) (y : MethodName) (cc : ByteArray) (nL : Nat) (ret : Option FieldType) (xt : List (Nat × Nat × Nat × Nat)) (D : va_G) (AC : Nat → ClassId) (lo : Nat) : Prop :=
  CallFix p m c cc nL s args TT y.cls ∧ KK D AC lo s ∧ meth.locks = false ∧ meth.sig.returnType = ret ∧ meth.name = y.name ∧ lo ≤ s.heap.size ∧ c.exceptionTable.toList.map (fun h => (h.startPc, h.endPc, h.handlerPc, h.catchType)) = xt
def MQX (below : List Frame) (Qo : Outcome → State → Prop) (s : State) (mc ms lo : Nat) : State → Prop := fun t =>
  ∃ o, t.status = .running ∧ Ended t below o ∧ Qo o t ∧ ∃ L, s.WarmedH t.vm ∧ s.sameButNew ({ t with vm := s.vm } : State) L mc ms ∧ ∀ q ∈ L, lo ≤ q.base
def HB (s : State) (R : Room) (nL : Nat) (D : va_G) (lo : Nat) (w : Wst) (k n : Nat) (lv : List (Nat × Value)) (H : Heap) (locs : List Loc) (ls : Array Slot) (cells slots : Nat) : Prop :=
  lv_has ls nL lv ∧ wP D lo w H ∧ va_S (loA lo) s.heap H locs ∧ cells + k ≤ R.cells ∧ slots + n ≤ R.slots
/-- THE JUDGEMENT: from pc, with the known locals lv, the operand stack st and the world w, k cells of n slots still to be made, the method comes to its end -/
def G (p : Program) (l : Launch) (e : Env) (R : Room) (s : State) (m : MethodId) (args : Array Value) (below : List Frame) (meth : Method) (c : Code) (nL : Nat) (D : va_G) (lo : Nat) (post : Option Value → Wst → Prop) (thr : String → Wst → Prop) (w : Wst) (k n pc : Nat) (lv : List (Nat × Value)) (st : List Value) : Prop :=
  ∀ (H : Heap) (locs : List Loc) (ls : Array Slot) (cells slots : Nat), HB s R nL D lo w k n lv H locs ls cells slots → W p l e R s m args below meth c H locs cells slots (MQX below (QC D lo post thr s) s R.cells R.slots lo) (F0 m pc ls st)
section BX
variable {l : Launch} {R : Room} {p : Program} {e : Env} {below : List Frame} {s : State} {sargs : Array Value} {y : MethodName} {len Wt : Nat}
/-- A CALL, from the invoking instruction on: it comes back, or it throws -/
theorem backX {ws : List Cond} {rm : Room} {lo maxL : Nat} {Pc : Array Value → State → Prop} {Qc : Array Value → State → Outcome → State → Prop} (hM : MetX l y ws rm lo Pc Qc) (hbl : FrameBlind Pc)
    (hframes : rm.frames + 1 ≤ R.frames) (hlocals : Wt + (maxL + 11) + rm.locals ≤ R.locals)
    (hws : ∀ w ∈ ws, ∀ (a' : Array Value) (U : State), s.WarmedH U.vm → w.before a' U = true) (hini : (Cond.initialized y.cls).before sargs s = true)
    {m : MethodId} {meth : Method} {c : Code} {U : State} {Ls : List Loc} {c0 s0 : Nat} {g : JFrame} {ig : Instr} {mk : MethodId} {a : Array Value}
    (X : Stand p l e R s m sargs below meth c U Ls c0 s0) (hg : g.method = m) (hsize : g.locals.size = c.maxLocals) (hdg : decode c.code g.pc = .ok (ig, len))
    (hW : 2 * g.monitorRoom + (g.stack.map fun v => v.category).sum ≤ Wt) (hn : U.methodNamed? y = some mk) (hmt : ∃ methY cY, U.vm.method? mk = some methY ∧ methY.code = some cY ∧ cY.maxLocals = maxL)
    (hP : Pc a U) (h4 : c0 + rm.cells ≤ R.cells) (h5 : s0 + rm.slots ≤ R.slots) :
    ∃ (t T' : State) (L : List Loc) (o : Outcome), Stand p l e R s m sargs below meth c T' (Ls ++ L) (c0 + rm.cells) (s0 + rm.slots) ∧ T'.heap = t.heap ∧ T'.vm = t.vm ∧ (∀ q ∈ L, lo ≤ q.base) ∧ Qc a (U.calling g mk a) o t ∧
      ((∃ v, o = .returned v ∧ Steps p.tables e below (doInvoke e (U.setTop g) [] mk a).1 (T'.setTop { g with pc := g.pc + len, stack := v.toList ++ g.stack })) ∨
       (∃ x, o = .threw x ∧ Steps p.tables e below (doInvoke e (U.setTop g) [] mk a).1 ((T'.setTop g).pushFrame (.throwing x)))) := by
  obtain ⟨methY, cY, hmY, hcY, hlY⟩ := hmt
  obtain ⟨kY, hkY, -⟩ := className_of_methodNamed hn
  have hini' : (Cond.initialized y.cls).before a U = true := word_at X.warmed (Or.inl (by first | rfl | simp [Cond.onTables, Cond.keeps, Cond.steady])) hini
  have hinitY : kY.init = .initialized := Cond.initialized_spec (findClass_of_methodNamed hn) hkY hini'
  have h : At U g.method c below := by rw [hg]; exact X.here
  have happ : (headSpec ws rm).appliesLoose y e.platform (U.calling g mk a) = true :=
    Spec.appliesLoose_calling (g := g) h hdg hn hkY hinitY
      (X.room_calling (g := g) (R' := rm) hsize hmY hcY hframes (by rw [hlY]; omega) h4 h5) (atoms_intro fun w hw => hws w hw _ _ X.warmed)
  obtain ⟨mid, hmid⟩ := h.above
  have hfr : (U.setTop g).frames = (.java g :: mid) ++ below := by rw [State.frames_setTop' g h.top, hmid]; rfl
  obtain ⟨o, s₂, hsteps, -, hend, hq⟩ := Steps.callFree hM p X.admits X.cas X.clock (acts := []) hfr happ (hbl _ _ g mk hP) trivial
  rw [State.frames_setTop' g h.top] at hend
  have hq0 : Qc a (U.calling g mk a) o s₂ ∧ ∃ L, (U.calling g mk a).WarmedH s₂.vm ∧ (U.calling g mk a).sameButNew ({ s₂ with vm := (U.calling g mk a).vm } : State) L rm.cells rm.slots ∧ ∀ q ∈ L, lo ≤ q.base := hq
  obtain ⟨hq', L, hW₂, hsame, hL⟩ := hq0
  cases o with
  | threw x =>
    rw [X.tail] at hend
    obtain ⟨T', X', hW', hB, ht⟩ := X.outOfThrown hg (mk := mk) (a := a) (t := s₂) (x := x) (L := L) (k := rm.cells) (n := rm.slots) hend hW₂ hsame
    have hh : T'.heap = s₂.heap ∧ T'.vm = s₂.vm := by rw [ht]; exact ⟨rfl, rfl⟩
    exact ⟨s₂, T', L, .threw x, X', hh.1, hh.2, hL, hq', Or.inr ⟨x, rfl, by rw [← ht]; exact hsteps⟩⟩
  | returned v =>
    obtain ⟨e2, q2, q3, q4, q5, q6⟩ := hsame
    have e3 : s₂ = ({ (U.calling g mk a).setFrames s₂.frames with heap := s₂.heap, slotsUsed := s₂.slotsUsed } : State).setVm s₂.vm := by
      have : s₂ = ({ s₂ with vm := (U.calling g mk a).vm } : State).setVm s₂.vm := rfl
      rw [e2] at this
      exact this
    obtain ⟨c₂, i₂, len₂, hc₂, hd₂, hf₂⟩ := hend
    have hW' : U.WarmedH s₂.vm := hW₂
    have hcc : c₂ = c := by
      have h1 : s₂.code? g.method = U.code? g.method := by
        rw [State.code?_eq, State.code?_eq, hW'.alike.method?]
      exact Option.some.inj (hc₂.symm.trans (h1.trans h.code))
    subst hcc
    have hlen : len₂ = len := by rw [hdg] at hd₂; cases hd₂; rfl
    subst hlen
    obtain ⟨g₀, hg0⟩ := Option.isSome_iff_exists.mp h.top
    obtain ⟨r, hr⟩ := State.topJava?_eq_some.mp hg0
    have hs₂ : s₂ = (({ U with heap := s₂.heap, slotsUsed := s₂.slotsUsed } : State).setVm s₂.vm).setTop { g with pc := g.pc + len₂, stack := v.toList ++ g.stack } := by
      have hr' : (({ U with heap := s₂.heap, slotsUsed := s₂.slotsUsed } : State).setVm s₂.vm).frames = .java g₀ :: r := hr
      refine e3.trans ?_
      rw [hf₂, State.calling_eq h.top, State.setFrames_setFrames, State.setTop_of_frames _ hr', hr]
      rfl
    have hsame' : U.sameButNew ({ U with heap := s₂.heap, slotsUsed := s₂.slotsUsed } : State) L rm.cells rm.slots := by
      refine ⟨?_, q2, q3, q4, q5, q6⟩
      obtain ⟨t, ht, -⟩ := State.frames_cons hr
      show ({ U with heap := s₂.heap, slotsUsed := s₂.slotsUsed } : State) = { U.setFrames U.frames with heap := s₂.heap, slotsUsed := s₂.slotsUsed }
      rw [State.setFrames_self ht]
    subst hg
    refine ⟨s₂, (({ U with heap := s₂.heap, slotsUsed := s₂.slotsUsed } : State).setVm s₂.vm), L, .returned v,
      ⟨X.admits, X.cas, X.clock, X.frames, X.room, X.hears, X.method, X.code, (X.here.setHeapUsed s₂.heap s₂.slotsUsed).setVm hW'.alike, X.tail, State.WarmedH.trans X.warmed hW', X.limits, X.bytes, X.same.trans (hsame'.setVm s.vm)⟩,
      rfl, rfl, hL, hq', Or.inl ⟨v, rfl, ?_⟩⟩
    rw [← hs₂]
    exact hsteps
end BX
section OFG
variable {l : Launch} {y : MethodName} {cc : ByteArray} {maxL : Nat} {ret : Option FieldType} {rm : Room} {D : va_G} {AC : Nat → ClassId} {lo : Nat} {av : List Value} {w : Wst} {post : Option Value → Wst → Prop} {thr : String → Wst → Prop}
/-- a contract out of the walk of the body -/
theorem Ct.of (hy : plainName y.cls = true) (hn : (lg_sl av).length ≤ maxL)
    (body : ∀ p e s m args below meth c, l.admits e → Cx p s m args meth c y cc maxL ret [] D AC lo → G p l e rm s m args below meth c maxL D lo post thr w rm.cells rm.slots 0 (lv_args 0 av) []) :
    Ct l y (.code y cc maxL ret) rm D AC lo av w post thr := by
  unfold Ct MetX
  refine MetFree.of_bodyS (code := cc) (maxLocals := maxL) (ret := ret) hy ?_ ?_
  · intro args s m h hn
    obtain ⟨meth, c, h1, h2, h3, h4, h5, h6, -, -⟩ := Cond.code_spec hn (atoms_spec (ws := Cond.code y cc maxL ret :: TT) h _ List.mem_cons_self)
    exact ⟨meth, c, h1, h2, h3, h4, h5, h6⟩
  · intro p e s m args below meth c s₁ B hml hP _
    obtain ⟨rfl, hw, hk, hlo⟩ := hP
    have hts0 := atoms_spec (ws := Cond.code y cc maxL ret :: TT) B.pre
    have he : c.exceptionTable.toList.map (fun h => (h.startPc, h.endPc, h.handlerPc, h.catchType)) = [] := by
      have := B.noHandlers (hts0 _ List.mem_cons_self)
      have h0 : c.exceptionTable = #[] := by simpa using this
      rw [h0]; rfl
    have hX : Cx p s m av.toArray meth c y cc maxL ret [] D AC lo := ⟨⟨B.exec, B.bytes, hml, findClass_of_methodNamed B.named, fun w h => hts0 w (List.mem_cons_of_mem _ h)⟩, hk, B.notSynchronized, B.returns, (name_of_methodNamed B.named B.method).1, hlo, he⟩
    have hh0 : s₁.heap = s.heap := by rw [B.state]; rfl
    have hl := lv_entry av (n := maxL) hn
    have K := body p e s m av.toArray below meth c B.admits hX s.heap [] _ 0 0 ⟨hl, hw, va_S.rf, by omega, by omega⟩
    rw [← lg_entry_eq] at K
    obtain ⟨t, a1, o, b1, b2, b3, L, b4, b5, b6⟩ := K s₁ hh0 (Stand.of_body B)
    exact ⟨t, o, a1, b1, b2, b3, L, b4, b5, b6⟩
theorem Ct.ofH {hh : List (Nat × Nat × Nat × Nat)} (hy : plainName y.cls = true) (hn : (lg_sl av).length ≤ maxL)
    (body : ∀ p e s m args below meth c, l.admits e → Cx p s m args meth c y cc maxL ret hh D AC lo → G p l e rm s m args below meth c maxL D lo post thr w rm.cells rm.slots 0 (lv_args 0 av) []) :
    Ct l y (.codeWith y cc maxL ret hh) rm D AC lo av w post thr := by
  unfold Ct MetX
  refine MetFree.of_bodyS (code := cc) (maxLocals := maxL) (ret := ret) hy ?_ ?_
  · intro args s m h hn
    obtain ⟨m9, meth, c, hn9, h1, h2, h3, h4, -, h5, h6, -⟩ := Cond.codeWith_spec (atoms_spec (ws := Cond.codeWith y cc maxL ret hh :: TT) h _ List.mem_cons_self)
    cases hn.symm.trans hn9
    exact ⟨meth, c, h1, h2, h3, h4, h5, h6⟩
  · intro p e s m args below meth c s₁ B hml hP _
    obtain ⟨rfl, hw, hk, hlo⟩ := hP
    have hts0 := atoms_spec (ws := Cond.codeWith y cc maxL ret hh :: TT) B.pre
    have he : c.exceptionTable.toList.map (fun h => (h.startPc, h.endPc, h.handlerPc, h.catchType)) = hh := by
      obtain ⟨m9, meth9, c9, hn9, h1, h2, -, -, h5, -⟩ := Cond.codeWith_spec (hts0 _ List.mem_cons_self)
      cases B.named.symm.trans hn9
      cases B.method.symm.trans h1
      cases (Stand.of_body B).code.symm.trans h2
      exact h5
    have hX : Cx p s m av.toArray meth c y cc maxL ret hh D AC lo := ⟨⟨B.exec, B.bytes, hml, findClass_of_methodNamed B.named, fun w h => hts0 w (List.mem_cons_of_mem _ h)⟩, hk, B.notSynchronized, B.returns, (name_of_methodNamed B.named B.method).1, hlo, he⟩
    have hh0 : s₁.heap = s.heap := by rw [B.state]; rfl
    have hl := lv_entry av (n := maxL) hn
    have K := body p e s m av.toArray below meth c B.admits hX s.heap [] _ 0 0 ⟨hl, hw, va_S.rf, by omega, by omega⟩
    rw [← lg_entry_eq] at K
    obtain ⟨t, a1, o, b1, b2, b3, L, b4, b5, b6⟩ := K s₁ hh0 (Stand.of_body B)
    exact ⟨t, o, a1, b1, b2, b3, L, b4, b5, b6⟩
end OFG
