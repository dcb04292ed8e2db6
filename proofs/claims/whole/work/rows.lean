section
-- ===== PART A: goes FIRST, ahead of the names: the tables' words, and 'selects' of the private methods out of them =====
/-- a private method of a class that the tables say can be made, by its rows of tables_1 -/
def lw_okq (q : MethodName × Nat) : Prop := (q.1.cls ≠ "java/lang/invoke/MethodHandle" ∧ q.1.cls ≠ "java/lang/invoke/VarHandle") ∧ Cond.instantiable q.1.cls q.2 ∈ tables_1 ∧ Cond.privateMethod q.1 ∈ tables_1 ∧ Cond.instanceMethod q.1 ∈ tables_1
theorem lw_p0 : lw_okq (⟨"LandRegister", "requireFactDay", "(I)V"⟩, 5) := ⟨⟨by decide +kernel, by decide +kernel⟩, List.mem_of_getElem? (i := 24) (by decide +kernel), List.mem_of_getElem? (i := 128) (by decide +kernel), List.mem_of_getElem? (i := 129) (by decide +kernel)⟩
theorem lw_p1 : lw_okq (⟨"java/lang/Throwable", "fillInStackTrace", "(I)Ljava/lang/Throwable;"⟩, 6) := ⟨⟨by decide +kernel, by decide +kernel⟩, List.mem_of_getElem? (i := 170) (by decide +kernel), List.mem_of_getElem? (i := 168) (by decide +kernel), List.mem_of_getElem? (i := 169) (by decide +kernel)⟩
theorem lw_p2 : lw_okq (⟨"LandRegister", "requireFreeNumber", "()V"⟩, 5) := ⟨⟨by decide +kernel, by decide +kernel⟩, List.mem_of_getElem? (i := 24) (by decide +kernel), List.mem_of_getElem? (i := 209) (by decide +kernel), List.mem_of_getElem? (i := 210) (by decide +kernel)⟩
theorem lw_p3 : lw_okq (⟨"LandRegister", "file", "(ILLandRegister$Deed;)I"⟩, 5) := ⟨⟨by decide +kernel, by decide +kernel⟩, List.mem_of_getElem? (i := 24) (by decide +kernel), List.mem_of_getElem? (i := 264) (by decide +kernel), List.mem_of_getElem? (i := 265) (by decide +kernel)⟩
theorem lw_p4 : lw_okq (⟨"LandRegister", "lookAt", "(II)V"⟩, 5) := ⟨⟨by decide +kernel, by decide +kernel⟩, List.mem_of_getElem? (i := 24) (by decide +kernel), List.mem_of_getElem? (i := 268) (by decide +kernel), List.mem_of_getElem? (i := 269) (by decide +kernel)⟩
theorem lw_p5 : lw_okq (⟨"LandRegister$Rerank", "consentsNeeded", "(LLandRegister$Parcel;)I"⟩, 8) := ⟨⟨by decide +kernel, by decide +kernel⟩, List.mem_of_getElem? (i := 323) (by decide +kernel), List.mem_of_getElem? (i := 321) (by decide +kernel), List.mem_of_getElem? (i := 322) (by decide +kernel)⟩
theorem lw_p6 : lw_okq (⟨"LandRegisterModel", "look", "(II)V"⟩, 21) := ⟨⟨by decide +kernel, by decide +kernel⟩, List.mem_of_getElem? (i := 741) (by decide +kernel), List.mem_of_getElem? (i := 747) (by decide +kernel), List.mem_of_getElem? (i := 748) (by decide +kernel)⟩
theorem lw_p7 : lw_okq (⟨"LandRegisterModel", "reason", "(I)I"⟩, 21) := ⟨⟨by decide +kernel, by decide +kernel⟩, List.mem_of_getElem? (i := 741) (by decide +kernel), List.mem_of_getElem? (i := 751) (by decide +kernel), List.mem_of_getElem? (i := 752) (by decide +kernel)⟩
theorem lw_p8 : lw_okq (⟨"LandRegisterModel", "isWarned", "(I)Z"⟩, 21) := ⟨⟨by decide +kernel, by decide +kernel⟩, List.mem_of_getElem? (i := 741) (by decide +kernel), List.mem_of_getElem? (i := 755) (by decide +kernel), List.mem_of_getElem? (i := 756) (by decide +kernel)⟩
theorem lw_p9 : lw_okq (⟨"LandRegisterModel", "ofSale", "(I)I"⟩, 21) := ⟨⟨by decide +kernel, by decide +kernel⟩, List.mem_of_getElem? (i := 741) (by decide +kernel), List.mem_of_getElem? (i := 759) (by decide +kernel), List.mem_of_getElem? (i := 760) (by decide +kernel)⟩
theorem lw_p10 : lw_okq (⟨"LandRegisterModel", "agreed", "(I)Z"⟩, 21) := ⟨⟨by decide +kernel, by decide +kernel⟩, List.mem_of_getElem? (i := 741) (by decide +kernel), List.mem_of_getElem? (i := 770) (by decide +kernel), List.mem_of_getElem? (i := 771) (by decide +kernel)⟩
theorem lw_p11 : lw_okq (⟨"LandRegisterModel", "sameShares", "(II)Z"⟩, 21) := ⟨⟨by decide +kernel, by decide +kernel⟩, List.mem_of_getElem? (i := 741) (by decide +kernel), List.mem_of_getElem? (i := 774) (by decide +kernel), List.mem_of_getElem? (i := 775) (by decide +kernel)⟩
theorem lw_p12 : lw_okq (⟨"LandRegisterModel", "sameMortgages", "(II)Z"⟩, 21) := ⟨⟨by decide +kernel, by decide +kernel⟩, List.mem_of_getElem? (i := 741) (by decide +kernel), List.mem_of_getElem? (i := 778) (by decide +kernel), List.mem_of_getElem? (i := 779) (by decide +kernel)⟩
theorem lw_p13 : lw_okq (⟨"LandRegisterModel", "does", "(I)V"⟩, 21) := ⟨⟨by decide +kernel, by decide +kernel⟩, List.mem_of_getElem? (i := 741) (by decide +kernel), List.mem_of_getElem? (i := 782) (by decide +kernel), List.mem_of_getElem? (i := 783) (by decide +kernel)⟩
theorem lw_p14 : lw_okq (⟨"LandRegisterModel", "make", "(IJI)V"⟩, 21) := ⟨⟨by decide +kernel, by decide +kernel⟩, List.mem_of_getElem? (i := 741) (by decide +kernel), List.mem_of_getElem? (i := 786) (by decide +kernel), List.mem_of_getElem? (i := 787) (by decide +kernel)⟩
theorem lw_p15 : lw_okq (⟨"LandRegisterModel", "sells", "(I)V"⟩, 21) := ⟨⟨by decide +kernel, by decide +kernel⟩, List.mem_of_getElem? (i := 741) (by decide +kernel), List.mem_of_getElem? (i := 790) (by decide +kernel), List.mem_of_getElem? (i := 791) (by decide +kernel)⟩
def lw_privs_1 : List (MethodName × Nat) := [(⟨"LandRegister", "requireFactDay", "(I)V"⟩, 5), (⟨"java/lang/Throwable", "fillInStackTrace", "(I)Ljava/lang/Throwable;"⟩, 6), (⟨"LandRegister", "requireFreeNumber", "()V"⟩, 5), (⟨"LandRegister", "file", "(ILLandRegister$Deed;)I"⟩, 5), (⟨"LandRegister", "lookAt", "(II)V"⟩, 5), (⟨"LandRegister$Rerank", "consentsNeeded", "(LLandRegister$Parcel;)I"⟩, 8), (⟨"LandRegisterModel", "look", "(II)V"⟩, 21), (⟨"LandRegisterModel", "reason", "(I)I"⟩, 21), (⟨"LandRegisterModel", "isWarned", "(I)Z"⟩, 21), (⟨"LandRegisterModel", "ofSale", "(I)I"⟩, 21), (⟨"LandRegisterModel", "agreed", "(I)Z"⟩, 21), (⟨"LandRegisterModel", "sameShares", "(II)Z"⟩, 21), (⟨"LandRegisterModel", "sameMortgages", "(II)Z"⟩, 21), (⟨"LandRegisterModel", "does", "(I)V"⟩, 21), (⟨"LandRegisterModel", "make", "(IJI)V"⟩, 21), (⟨"LandRegisterModel", "sells", "(I)V"⟩, 21)]
theorem lw_r1 : ∀ q ∈ lw_privs_1, lw_okq q := List.forall_mem_cons.mpr ⟨lw_p0, List.forall_mem_cons.mpr ⟨lw_p1, List.forall_mem_cons.mpr ⟨lw_p2, List.forall_mem_cons.mpr ⟨lw_p3, List.forall_mem_cons.mpr ⟨lw_p4, List.forall_mem_cons.mpr ⟨lw_p5, List.forall_mem_cons.mpr ⟨lw_p6, List.forall_mem_cons.mpr ⟨lw_p7, List.forall_mem_cons.mpr ⟨lw_p8, List.forall_mem_cons.mpr ⟨lw_p9, List.forall_mem_cons.mpr ⟨lw_p10, List.forall_mem_cons.mpr ⟨lw_p11, List.forall_mem_cons.mpr ⟨lw_p12, List.forall_mem_cons.mpr ⟨lw_p13, List.forall_mem_cons.mpr ⟨lw_p14, List.forall_mem_cons.mpr ⟨lw_p15, fun _ h => absurd h List.not_mem_nil⟩⟩⟩⟩⟩⟩⟩⟩⟩⟩⟩⟩⟩⟩⟩⟩
theorem lw_p16 : lw_okq (⟨"LandRegisterModel", "setShare", "(IJJ)V"⟩, 21) := ⟨⟨by decide +kernel, by decide +kernel⟩, List.mem_of_getElem? (i := 741) (by decide +kernel), List.mem_of_getElem? (i := 794) (by decide +kernel), List.mem_of_getElem? (i := 795) (by decide +kernel)⟩
theorem lw_p17 : lw_okq (⟨"LandRegisterModel", "carry", "(III)V"⟩, 21) := ⟨⟨by decide +kernel, by decide +kernel⟩, List.mem_of_getElem? (i := 741) (by decide +kernel), List.mem_of_getElem? (i := 798) (by decide +kernel), List.mem_of_getElem? (i := 799) (by decide +kernel)⟩
theorem lw_p18 : lw_okq (⟨"LandRegisterModel", "exchange", "(II)V"⟩, 21) := ⟨⟨by decide +kernel, by decide +kernel⟩, List.mem_of_getElem? (i := 741) (by decide +kernel), List.mem_of_getElem? (i := 802) (by decide +kernel), List.mem_of_getElem? (i := 803) (by decide +kernel)⟩
theorem lw_p19 : lw_okq (⟨"LandRegisterModel", "file", "(ZIIIIII)I"⟩, 21) := ⟨⟨by decide +kernel, by decide +kernel⟩, List.mem_of_getElem? (i := 741) (by decide +kernel), List.mem_of_getElem? (i := 886) (by decide +kernel), List.mem_of_getElem? (i := 887) (by decide +kernel)⟩
def lw_privs_2 : List (MethodName × Nat) := [(⟨"LandRegisterModel", "setShare", "(IJJ)V"⟩, 21), (⟨"LandRegisterModel", "carry", "(III)V"⟩, 21), (⟨"LandRegisterModel", "exchange", "(II)V"⟩, 21), (⟨"LandRegisterModel", "file", "(ZIIIIII)I"⟩, 21)]
theorem lw_r2 : ∀ q ∈ lw_privs_2, lw_okq q := List.forall_mem_cons.mpr ⟨lw_p16, List.forall_mem_cons.mpr ⟨lw_p17, List.forall_mem_cons.mpr ⟨lw_p18, List.forall_mem_cons.mpr ⟨lw_p19, fun _ h => absurd h List.not_mem_nil⟩⟩⟩⟩
def lw_privs : List (MethodName × Nat) := lw_privs_1 ++ (lw_privs_2)
def lw_tbl : List Cond := k2_sels lw_privs ++ tables_1
theorem lw_privs_ok : ∀ q ∈ lw_privs, lw_okq q := by
  show ∀ q ∈ lw_privs_1 ++ (lw_privs_2), lw_okq q
  exact List.forall_mem_append.mpr ⟨lw_r1, lw_r2⟩
/-! ===== BEGIN words of one list among another's, by their places ===== -/
theorem goodIn_r {big : List Cond} (ws : List Cond) (ps : List Nat) (hp : ws = ps.filterMap (fun i => big[i]?)) (h : ws.all goodWord = true) : GoodIn big ws := by
  intro w hw
  have h1 := List.all_eq_true.mp h w hw
  rw [hp] at hw
  obtain ⟨i, -, hi⟩ := List.mem_filterMap.mp hw
  have hm : w ∈ big := by first | exact List.mem_of_getElem? hi | exact List.getElem?_mem hi
  exact ⟨hm, good_of_word h1⟩
theorem goodIn_app {big a b : List Cond} (ha : GoodIn big a) (hb : GoodIn big b) : GoodIn big (a ++ b) := fun w h => (List.mem_append.mp h).elim (ha w) (hb w)
theorem goodIn_ca {big a b : List Cond} {c : Cond} (ha : GoodIn big (c :: a)) (hb : GoodIn big b) : GoodIn big (c :: (a ++ b)) := fun w h => (List.mem_cons.mp h).elim (fun e => ha w (List.mem_cons.mpr (Or.inl e))) (fun h => (List.mem_append.mp h).elim (fun h => ha w (List.mem_cons.mpr (Or.inr h))) (hb w))
theorem goodIn_sub {big ws : List Cond} (hm : ∀ w ∈ ws, w ∈ big) (h : ws.all goodWord = true) : GoodIn big ws := fun w hw => ⟨hm w hw, good_of_word (List.all_eq_true.mp h w hw)⟩
/-! ===== END ===== -/

/-! ===== BEGIN exceptions that leave a method, and their catching by the caller (launches without stack traces) ===== -/
section VXA
/-! The laws vx_back, vx_callV, vx_callS, vx_callSW, vx_throw0, vx_throwS follow proofs of the library, with one case more: JvmDerived/Free/Laws.lean (Back.of_free), Shelf42/LK1.lean (callV, callS), Shelf/KitTraced.lean (throwNew0V, throwNewS). -/
/-- where a method has thrown q: the class by its name, the cell, what was written, the world -/
def vx_T (XC : String → State → State → Prop) (st : State) (q : Addr) (t : State) (mc ms : Nat) (free : Addr → Prop) : Prop :=
  ∃ (E : String) (ce : Cell) (L : List Loc), XC E st t ∧ t.heap[q]? = some ce ∧ ce.vm = .none ∧ st.vm.findClass E = some ce.cls ∧ st.WarmedH t.vm ∧ st.sameButNew ({ t with vm := st.vm } : State) L mc ms ∧ ∀ z ∈ L, free z.base
def vx_Q (Qc : Array Value → State → Outcome → State → Prop) (XC : String → State → State → Prop) (mc ms : Nat) (free : Addr → Prop) : Array Value → State → Outcome → State → Prop := fun a st o t =>
  (Qc a st o t ∧ ∃ L, FrameEnd st o t L mc ms ∧ ∀ q ∈ L, free q.base) ∨ ∃ q, o = .threw q ∧ vx_T XC st q t mc ms free
/-- a callee that returns or throws -/
def vx_Met (l : Launch) (y : MethodName) (ws : List Cond) (rm : Room) (Pc : Array Value → State → Prop) (Qc : Array Value → State → Outcome → State → Prop) (XC : String → State → State → Prop) (mc ms : Nat) (free : Addr → Prop) : Prop :=
  MetFree l y (headSpec ws rm) Pc (fun _ _ _ _ _ => True) (vx_Q Qc XC mc ms free)
def vx_Post (XC : String → State → State → Prop) (mc ms : Nat) (free : Addr → Prop) : Pt → Array Value → Addr → Pt → Prop := fun A a q B =>
  ∃ (g : JFrame) (mk : MethodId) (t : State) (L : List Loc) (E : String) (ce : Cell), B.U.heap = t.heap ∧ B.U.vm = t.vm ∧ XC E (A.U.calling g mk a) t ∧ t.heap[q]? = some ce ∧ ce.vm = .none ∧ A.U.vm.findClass E = some ce.cls ∧ B.locs = A.locs ++ L ∧ (∀ z ∈ L, free z.base) ∧ B.cells = A.cells + mc ∧ B.slots = A.slots + ms
def vx_Back (l : Launch) (R : Room) (p : Program) (e : Env) (below : List Frame) (s : State) (sargs : Array Value) (y : MethodName) (len W9 : Nat)
    (Pre : Pt → Array Value → Prop) (Post : Pt → Array Value → Option Value → Pt → Prop) (PostX : Pt → Array Value → Addr → Pt → Prop) : Prop :=
  ∀ (m : MethodId) (meth : Method) (c : Code) (A : Pt) (g : JFrame) (ig : Instr) (mk : MethodId) (a : Array Value),
    Stand p l e R s m sargs below meth c A.U A.locs A.cells A.slots → g.method = m → g.locals.size = c.maxLocals → decode c.code g.pc = .ok (ig, len) →
    2 * g.monitorRoom + (g.stack.map fun v => v.category).sum ≤ W9 → A.U.methodNamed? y = some mk → Pre A a →
    (∃ (v : Option Value) (B : Pt), Stand p l e R s m sargs below meth c B.U B.locs B.cells B.slots ∧ Post A a v B ∧
      Steps p.tables e below (doInvoke e (A.U.setTop g) [] mk a).1 (B.U.setTop { g with pc := g.pc + len, stack := v.toList ++ g.stack })) ∨
    (∃ (q : Addr) (B : Pt), Stand p l e R s m sargs below meth c B.U B.locs B.cells B.slots ∧ PostX A a q B ∧
      Steps p.tables e below (doInvoke e (A.U.setTop g) [] mk a).1 ((B.U.setTop g).pushFrame (.throwing q)))
section Payer
variable {l : Launch} {R : Room} {p : Program} {e : Env} {below : List Frame} {s : State} {sargs : Array Value} {y : MethodName} {len W9 : Nat}
theorem vx_back {ws : List Cond} {rm : Room} {Pc : Array Value → State → Prop} {Qc : Array Value → State → Outcome → State → Prop} {XC : String → State → State → Prop} {mc ms : Nat} {free : Addr → Prop} {bytes : ByteArray} {maxL : Nat} {ret : Option FieldType}
    (hM : vx_Met l y ws rm Pc Qc XC mc ms free) (hblind : FrameBlind Pc) (hrc : rm.cells = mc) (hrs : rm.slots = ms)
    (hframes : rm.frames + 1 ≤ R.frames) (hlocals : W9 + (maxL + 11) + rm.locals ≤ R.locals)
    (hws : ∀ w ∈ ws, ∀ a' U, s.WarmedH U.vm → w.before a' U = true) (hcode : Cond.code y bytes maxL ret ∈ ws) (hinit : ∀ a' U, s.WarmedH U.vm → (Cond.initialized y.cls).before a' U = true) :
    vx_Back l R p e below s sargs y len W9 (PreOf R mc ms Pc) (PostOf Qc mc ms free) (vx_Post XC mc ms free) := by
  intro m meth c A g ig mk a X hg hsize hdg hW hn hp
  have h1 : (headSpec ws rm).pre.before a A.U = true := atoms_intro fun w hw => hws w hw _ _ X.warmed
  have h2 : (Cond.code y bytes maxL ret).before a A.U = true := hws _ hcode _ _ X.warmed
  have h3 : (Cond.initialized y.cls).before a A.U = true := hinit _ _ X.warmed
  have h4 : A.cells + (headSpec ws rm).room.cells ≤ R.cells := by rw [show (headSpec ws rm).room.cells = mc from hrc]; exact hp.1
  have h5 : A.slots + (headSpec ws rm).room.slots ≤ R.slots := by rw [show (headSpec ws rm).room.slots = ms from hrs]; exact hp.2.1
  have hPc : Pc a (A.U.calling g mk a) := hblind _ _ _ _ hp.2.2
  obtain ⟨U, Ls, c0, s0⟩ := A
  dsimp only [Pt.U, Pt.locs, Pt.cells, Pt.slots] at h1 h2 h3 h4 h5 X hn hPc ⊢
  obtain ⟨methY, cY, hmY, hcY, -, hlY, -, -, -, -⟩ := Cond.code_spec hn h2
  obtain ⟨kY, hkY, -⟩ := className_of_methodNamed hn
  have hinitY : kY.init = .initialized := Cond.initialized_spec (findClass_of_methodNamed hn) hkY h3
  have h : At U g.method c below := by rw [hg]; exact X.here
  have hlocals9 : W9 + (maxL + 11) + (headSpec ws rm).room.locals ≤ R.locals := hlocals
  have happ : (headSpec ws rm).appliesLoose y e.platform (U.calling g mk a) = true :=
    Spec.appliesLoose_calling (g := g) h hdg hn hkY hinitY
      (X.room_calling (g := g) (R' := (headSpec ws rm).room) hsize hmY hcY hframes (by rw [hlY]; omega) h4 h5) h1
  obtain ⟨mid, hmid⟩ := h.above
  have hfr : (U.setTop g).frames = (.java g :: mid) ++ below := by rw [State.frames_setTop' g h.top, hmid]; rfl
  obtain ⟨o, s₂, hsteps, -, hend, hq⟩ := Steps.callFree hM p X.admits X.cas X.clock (acts := []) hfr happ hPc trivial
  have hq' : vx_Q Qc XC mc ms free a (U.calling g mk a) o s₂ := hq
  rw [State.frames_setTop' g h.top] at hend
  obtain ⟨g₀, hg0⟩ := Option.isSome_iff_exists.mp h.top
  obtain ⟨r, hr⟩ := State.topJava?_eq_some.mp hg0
  have hr' : (({ U with heap := s₂.heap, slotsUsed := s₂.slotsUsed } : State).setVm s₂.vm).frames = .java g₀ :: r := hr
  rcases hq' with ⟨hqc, L, hfe, hL⟩ | ⟨q, rfl, E, ce, L, hx, hce, hcv, hcl, hW₂, hsm, hL⟩
  · obtain ⟨⟨v, rfl⟩, hW₂, e2, q2, q3, q4, q5, q6⟩ := id hfe
    have e3 : s₂ = ({ (U.calling g mk a).setFrames s₂.frames with heap := s₂.heap, slotsUsed := s₂.slotsUsed } : State).setVm s₂.vm := by
      have : s₂ = ({ s₂ with vm := (U.calling g mk a).vm } : State).setVm s₂.vm := rfl
      rw [e2] at this
      exact this
    obtain ⟨c₂, i₂, len₂, hc₂, hd₂, hf₂⟩ := hend
    have hW' : U.WarmedH s₂.vm := hW₂
    have hcc : c₂ = c := by
      have h1 : s₂.code? g.method = U.code? g.method := by
        rw [State.code?_eq, State.code?_eq, hW'.alike.method?]
      exact Option.some.inj (hc₂.symm.trans (h1.trans h.code))
    subst hcc
    have hlen : len₂ = len := by rw [hdg] at hd₂; cases hd₂; rfl
    subst hlen
    have hs₂ : s₂ = (({ U with heap := s₂.heap, slotsUsed := s₂.slotsUsed } : State).setVm s₂.vm).setTop { g with pc := g.pc + len₂, stack := v.toList ++ g.stack } := by
      refine e3.trans ?_
      rw [hf₂, State.calling_eq h.top, State.setFrames_setFrames, State.setTop_of_frames _ hr', hr]
      rfl
    have hsame : U.sameButNew ({ U with heap := s₂.heap, slotsUsed := s₂.slotsUsed } : State) L mc ms := by
      refine ⟨?_, q2, q3, q4, q5, q6⟩
      obtain ⟨t, ht, -⟩ := State.frames_cons hr
      show ({ U with heap := s₂.heap, slotsUsed := s₂.slotsUsed } : State) = { U.setFrames U.frames with heap := s₂.heap, slotsUsed := s₂.slotsUsed }
      rw [State.setFrames_self ht]
    subst hg
    refine Or.inl ⟨v, ⟨(({ U with heap := s₂.heap, slotsUsed := s₂.slotsUsed } : State).setVm s₂.vm), Ls ++ L, c0 + mc, s0 + ms⟩,
      ⟨X.admits, X.cas, X.clock, X.frames, X.room, X.hears, X.method, X.code, (X.here.setHeapUsed s₂.heap s₂.slotsUsed).setVm hW'.alike, X.tail, State.WarmedH.trans X.warmed hW', X.limits, X.bytes, X.same.trans (hsame.setVm s.vm)⟩,
      ⟨g, mk, s₂, L, rfl, rfl, hqc, rfl, hL, rfl, rfl⟩, ?_⟩
    show Steps p.tables e below _ ((({ U with heap := s₂.heap, slotsUsed := s₂.slotsUsed } : State).setVm s₂.vm).setTop { g with pc := g.pc + len₂, stack := v.toList ++ g.stack })
    rw [← hs₂]
    exact hsteps
  · obtain ⟨e2, q2, q3, q4, q5, q6⟩ := id hsm
    have e3 : s₂ = ({ (U.calling g mk a).setFrames s₂.frames with heap := s₂.heap, slotsUsed := s₂.slotsUsed } : State).setVm s₂.vm := by
      have : s₂ = ({ s₂ with vm := (U.calling g mk a).vm } : State).setVm s₂.vm := rfl
      rw [e2] at this
      exact this
    have hf₂ : s₂.frames = .throwing q :: .java g :: U.frames.tail := hend
    have hW' : U.WarmedH s₂.vm := hW₂
    have hs₂ : s₂ = ((({ U with heap := s₂.heap, slotsUsed := s₂.slotsUsed } : State).setVm s₂.vm).setTop g).pushFrame (.throwing q) := by
      refine e3.trans ?_
      rw [hf₂, State.calling_eq h.top, State.setFrames_setFrames, State.pushFrame, State.frames_setTop _ hr', State.setTop_of_frames _ hr', State.setFrames_setFrames, hr]
      rfl
    have hsame : U.sameButNew ({ U with heap := s₂.heap, slotsUsed := s₂.slotsUsed } : State) L mc ms := by
      refine ⟨?_, q2, q3, q4, q5, q6⟩
      obtain ⟨t, ht, -⟩ := State.frames_cons hr
      show ({ U with heap := s₂.heap, slotsUsed := s₂.slotsUsed } : State) = { U.setFrames U.frames with heap := s₂.heap, slotsUsed := s₂.slotsUsed }
      rw [State.setFrames_self ht]
    subst hg
    refine Or.inr ⟨q, ⟨(({ U with heap := s₂.heap, slotsUsed := s₂.slotsUsed } : State).setVm s₂.vm), Ls ++ L, c0 + mc, s0 + ms⟩,
      ⟨X.admits, X.cas, X.clock, X.frames, X.room, X.hears, X.method, X.code, (X.here.setHeapUsed s₂.heap s₂.slotsUsed).setVm hW'.alike, X.tail, State.WarmedH.trans X.warmed hW', X.limits, X.bytes, X.same.trans (hsame.setVm s.vm)⟩,
      ⟨g, mk, s₂, L, E, ce, rfl, rfl, hx, hce, hcv, hcl, rfl, hL, rfl, rfl⟩, ?_⟩
    show Steps p.tables e below _ (((({ U with heap := s₂.heap, slotsUsed := s₂.slotsUsed } : State).setVm s₂.vm).setTop g).pushFrame (.throwing q))
    rw [← hs₂]
    exact hsteps
end Payer
section Calls
variable {p : Program} {l : Launch} {e : Env} {R : Room} {s : State} {m : MethodId} {args : Array Value} {below : List Frame} {meth : Method} {c : Code} {T : State} {locs : List Loc} {cells slots : Nat}
theorem vx_callV (X : Stand p l e R s m args below meth c T locs cells slots) (hexec : p.tables.exec = Jvm.exec) {own C : String} {index : Nat} {y : MethodName} {bytes : ByteArray} {maxL : Nat} {ret : Option FieldType}
    (hown : s.vm.findClass own = some m.cls) (hlink : (Cond.methodLink own index y).before args s = true) (hinst : (Cond.instanceMethod y).before args s = true) (hsel : (Cond.selects C y y).before args s = true)
    (hcode : (Cond.code y bytes maxL ret).before args s = true) (hy : y.cls ≠ "java/lang/invoke/MethodHandle" ∧ y.cls ≠ "java/lang/invoke/VarHandle")
    {W9 : Nat} {Pre : Pt → Array Value → Prop} {Post : Pt → Array Value → Option Value → Pt → Prop} {PostX : Pt → Array Value → Addr → Pt → Prop} (hK : vx_Back l R p e below s args y 3 W9 Pre Post PostX)
    {b : Addr} {cellB : Cell} (hcell : T.heap[b]? = some cellB) (hobj : cellB.vm.isStatics = false) (hcls : s.vm.findClass C = some cellB.cls)
    {g : JFrame} (hg : g.method = m) (hsize : g.locals.size = c.maxLocals) {argsL rest : List Value} (hlen : ∀ sig, parseMethodDescriptor y.desc = some sig → argsL.length = sig.parameters.length)
    (hstack : g.stack = argsL.reverse ++ .ref b :: rest) (hW : 2 * g.monitorRoom + (rest.map fun v => v.category).sum ≤ W9) (hdg : decode c.code g.pc = .ok (.invokevirtual index, 3))
    (hpre : ∀ vm₁, s.WarmedH vm₁ → Pre ⟨T.setVm vm₁, locs, cells, slots⟩ (Value.ref b :: argsL).toArray) :
    (∃ (v : Option Value) (vm₁ : Vm) (B : Pt), s.WarmedH vm₁ ∧ Stand p l e R s m args below meth c B.U B.locs B.cells B.slots ∧ Post ⟨T.setVm vm₁, locs, cells, slots⟩ (Value.ref b :: argsL).toArray v B ∧
      ∀ target, Steps p.tables e below (B.U.setTop { g with pc := g.pc + 3, stack := v.toList ++ rest }) target → Steps p.tables e below (T.setTop g) target) ∨
    (∃ (q : Addr) (vm₁ : Vm) (B : Pt), s.WarmedH vm₁ ∧ Stand p l e R s m args below meth c B.U B.locs B.cells B.slots ∧ PostX ⟨T.setVm vm₁, locs, cells, slots⟩ (Value.ref b :: argsL).toArray q B ∧
      Steps p.tables e below (T.setTop g) ((B.U.setTop { g with stack := rest }).pushFrame (.throwing q))) := by
  obtain ⟨mk, methM, hnamed, hmethM, hstM, habM⟩ := Cond.instanceMethod_spec hinst
  obtain ⟨methM', cM, hmethM', -, -, -, -, -, -, hsigM⟩ := Cond.code_spec hnamed hcode
  cases hmethM.symm.trans hmethM'
  obtain ⟨c2, r2, m2, q1, q2, q3, q4, kP, hkP, hkPi⟩ := Cond.selects_spec hsel
  cases hcls.symm.trans q1
  cases (State.methodFound?_of_named hnamed hy).symm.trans q2
  cases hnamed.symm.trans q3
  have hselP : selectMethod e.platform s.vm cellB.cls mk = .method mk := by rw [Launch.admits_selectMethod X.admits]; exact q4
  obtain ⟨vm₁, X₁, hstep₁⟩ := X.invokevirtual hexec hown hlink hnamed hmethM hstM hkP hkPi hy (a := b) (cell := cellB) hcell
    (fun z h => by rw [h] at hobj; cases hobj) hselP hmethM habM hkP hkPi (g := g) hg (argsL := argsL) (rest := rest) (hlen _ hsigM) hstack hdg
  rcases hK m meth c ⟨T.setVm vm₁, locs, cells, slots⟩ { g with stack := rest } (.invokevirtual index) mk (Value.ref b :: argsL).toArray X₁ hg hsize hdg hW (X₁.named hnamed) (hpre vm₁ X₁.warmed) with ⟨v, B, X', hpost, hsteps⟩ | ⟨q, B, X', hpost, hsteps⟩
  · exact Or.inl ⟨v, vm₁, B, X₁.warmed, X', hpost, fun target h => hstep₁ _ fun acts => by rw [doInvoke_state]; exact hsteps.trans h⟩
  · exact Or.inr ⟨q, vm₁, B, X₁.warmed, X', hpost, hstep₁ _ fun acts => by rw [doInvoke_state]; exact hsteps⟩
theorem vx_callS (X : Stand p l e R s m args below meth c T locs cells slots) (hexec : p.tables.exec = Jvm.exec) {own : String} {index : Nat} {y : MethodName} {bytes : ByteArray} {maxL : Nat} {ret : Option FieldType}
    (hown : s.vm.findClass own = some m.cls) (hlink : (Cond.methodLink own index y).before args s = true) (hstat : (Cond.static y).before args s = true) (hinit : (Cond.initialized y.cls).before args s = true)
    (hcode : (Cond.code y bytes maxL ret).before args s = true) (hy : y.cls ≠ "java/lang/invoke/MethodHandle" ∧ y.cls ≠ "java/lang/invoke/VarHandle")
    {W9 : Nat} {Pre : Pt → Array Value → Prop} {Post : Pt → Array Value → Option Value → Pt → Prop} {PostX : Pt → Array Value → Addr → Pt → Prop} (hK : vx_Back l R p e below s args y 3 W9 Pre Post PostX)
    {g : JFrame} (hg : g.method = m) (hsize : g.locals.size = c.maxLocals) {argsL rest : List Value} (hlen : ∀ sig, parseMethodDescriptor y.desc = some sig → argsL.length = sig.parameters.length)
    (hstack : g.stack = argsL.reverse ++ rest) (hW : 2 * g.monitorRoom + (rest.map fun v => v.category).sum ≤ W9) (hdg : decode c.code g.pc = .ok (.invokestatic index, 3))
    (hpre : ∀ vm₁, s.WarmedH vm₁ → Pre ⟨T.setVm vm₁, locs, cells, slots⟩ argsL.toArray) :
    (∃ (v : Option Value) (vm₁ : Vm) (B : Pt), s.WarmedH vm₁ ∧ Stand p l e R s m args below meth c B.U B.locs B.cells B.slots ∧ Post ⟨T.setVm vm₁, locs, cells, slots⟩ argsL.toArray v B ∧
      ∀ target, Steps p.tables e below (B.U.setTop { g with pc := g.pc + 3, stack := v.toList ++ rest }) target → Steps p.tables e below (T.setTop g) target) ∨
    (∃ (q : Addr) (vm₁ : Vm) (B : Pt), s.WarmedH vm₁ ∧ Stand p l e R s m args below meth c B.U B.locs B.cells B.slots ∧ PostX ⟨T.setVm vm₁, locs, cells, slots⟩ argsL.toArray q B ∧
      Steps p.tables e below (T.setTop g) ((B.U.setTop { g with stack := rest }).pushFrame (.throwing q))) := by
  obtain ⟨mk, hnamed⟩ := Cond.code_named hcode
  obtain ⟨methM, cM, hmethM, -, -, -, -, -, -, hsigM⟩ := Cond.code_spec hnamed hcode
  have hstatic : methM.isStatic = true := Cond.static_spec hnamed hmethM hstat
  obtain ⟨kP, hkP, -⟩ := className_of_methodNamed hnamed
  have hinitP : kP.init = .initialized := Cond.initialized_spec (findClass_of_methodNamed hnamed) hkP hinit
  obtain ⟨vm₁, X₁, hstep₁⟩ := X.invokestatic hexec hown hlink hnamed hmethM hstatic hkP hinitP hy (g := g) hg (argsL := argsL) (rest := rest) (hlen _ hsigM) hstack hdg
  rcases hK m meth c ⟨T.setVm vm₁, locs, cells, slots⟩ { g with stack := rest } (.invokestatic index) mk argsL.toArray X₁ hg hsize hdg hW (X₁.named hnamed) (hpre vm₁ X₁.warmed) with ⟨v, B, X', hpost, hsteps⟩ | ⟨q, B, X', hpost, hsteps⟩
  · exact Or.inl ⟨v, vm₁, B, X₁.warmed, X', hpost, fun target h => hstep₁ _ fun acts => by rw [doInvoke_state]; exact hsteps.trans h⟩
  · exact Or.inr ⟨q, vm₁, B, X₁.warmed, X', hpost, hstep₁ _ fun acts => by rw [doInvoke_state]; exact hsteps⟩
end Calls
theorem vx_cls {s : State} {T : State} {vm₁ : Vm} {E : String} {k : ClassId} (hW : s.WarmedH vm₁) (h : (T.setVm vm₁).vm.findClass E = some k) : s.vm.findClass E = some k := by
  have h1 : vm₁.findClass E = some k := h
  rw [hW.alike.findClass] at h1
  exact h1
/-- the method's frame g, with q thrown over it -/
def vx_W (p : Program) (l : Launch) (e : Env) (R : Room) (s : State) (m : MethodId) (args : Array Value) (below : List Frame) (meth : Method) (c : Code) (H : Heap) (locs : List Loc) (cells slots : Nat) (Q : State → Prop) (g : JFrame) (q : Addr) : Prop :=
  ∀ T : State, T.heap = H → Stand p l e R s m args below meth c T locs cells slots → ∃ t, Steps p.tables e below ((T.setTop g).pushFrame (.throwing q)) t ∧ Q t
def vx_Run (p : Program) (l : Launch) (e : Env) (R : Room) (s : State) (m : MethodId) (args : Array Value) (below : List Frame) (meth : Method) (c : Code) (H : Heap) (locs : List Loc) (cells slots mc ms : Nat) (g : JFrame) (rest : List Value) (Qa : State → Outcome → State → Prop) (XC : String → State → State → Prop) (free : Addr → Prop) : Prop :=
  ∀ T : State, T.heap = H → Stand p l e R s m args below meth c T locs cells slots →
    (∃ (v : Option Value) (st₀ t T' : State) (L : List Loc), st₀.heap = H ∧ Stand p l e R s m args below meth c T' (locs ++ L) (cells + mc) (slots + ms) ∧ (∀ q ∈ L, free q.base) ∧ T'.heap = t.heap ∧ T'.vm = t.vm ∧ Qa st₀ (.returned v) t ∧
      Goes p e below T g T' { g with pc := g.pc + 3, stack := v.toList ++ rest }) ∨
    (∃ (q : Addr) (st₀ t T' : State) (L : List Loc) (E : String) (ce : Cell), st₀.heap = H ∧ Stand p l e R s m args below meth c T' (locs ++ L) (cells + mc) (slots + ms) ∧ (∀ z ∈ L, free z.base) ∧ T'.heap = t.heap ∧ T'.vm = t.vm ∧ XC E st₀ t ∧ t.heap[q]? = some ce ∧ ce.vm = .none ∧ s.vm.findClass E = some ce.cls ∧
      Steps p.tables e below (T.setTop g) ((T'.setTop { g with stack := rest }).pushFrame (.throwing q)))
def vx_X {S : Type} (px : S → Prop) (B : String → S → State → Prop) (A : Nat → Prop) : String → State → State → Prop := fun E st t => ∃ u : S, px u ∧ B E u t ∧ va_F A st t
section Runs
variable {p : Program} {l : Launch} {e : Env} {R : Room} {s : State} {m : MethodId} {args : Array Value} {below : List Frame} {meth : Method} {c : Code} {H : Heap} {locs : List Loc} {cells slots : Nat}
variable {y : MethodName} {bytes cc : ByteArray} {maxL nL mc ms n index : Nat} {ret : Option FieldType} {ws : List Cond} {rm : Room} {Pc : Array Value → State → Prop} {Qc : Array Value → State → Outcome → State → Prop} {XC : String → State → State → Prop} {free : Addr → Prop} {Ts : List Cond} {own C : String} {b : Addr} {As rest : List Value} {g : JFrame}
theorem vx_callBack (cb : CallB R s args own index y bytes maxL ret ws rm mc ms n) (hM : vx_Met l y ws rm Pc Qc XC mc ms free) (hbl : FrameBlind Pc) : vx_Back l R p e below s args y 3 8 (PreOf R mc ms Pc) (PostOf Qc mc ms free) (vx_Post XC mc ms free) := by
  obtain ⟨hrc, hrs, hfr, hlo, hws, hcw, -, hini, -⟩ := cb
  exact vx_back (bytes := bytes) (maxL := maxL) (ret := ret) hM hbl hrc hrs hfr hlo hws hcw (fun a' U hW => word_at hW (Or.inl (by first | rfl | simp [Cond.onTables, Cond.keeps, Cond.steady])) hini)
theorem vx_runV (S : CallFix p m c cc nL s args Ts own) (hM : vx_Met l y ws rm Pc Qc XC mc ms free) (cw : CallW R s args own C index y bytes maxL ret ws rm mc ms n) (hp : PreV s H C b Pc As)
    (hg : g.method = m) (hn : As.length = n) (hsize : g.locals.size = nL) (hstack : g.stack = As.reverse ++ .ref b :: rest) (hW : 2 * g.monitorRoom + (rest.map fun v => v.category).sum ≤ 8) (hdg : decode cc g.pc = .ok (.invokevirtual index, 3)) (hf : cells + mc ≤ R.cells ∧ slots + ms ≤ R.slots) :
    vx_Run p l e R s m args below meth c H locs cells slots mc ms g rest (Qc (Value.ref b :: As).toArray) XC free := by
  have hK : vx_Back l R p e below s args y 3 8 (PreOf R mc ms Pc) (PostOf Qc mc ms free) (vx_Post XC mc ms free) := vx_callBack cw.1 hM hp.1
  obtain ⟨⟨-, -, -, -, -, -, hcode, -, hy, hlen, hl⟩, hin, hse⟩ := cw
  obtain ⟨hx, hb, hml, ho, -⟩ := S
  obtain ⟨-, ⟨cellB, hcB, hoB, hclB⟩, hPc⟩ := hp
  intro T hT X
  rcases vx_callV X hx (C := C) (bytes := bytes) (maxL := maxL) (ret := ret) ho hl hin hse hcode hy hK (by rw [hT]; exact hcB) hoB hclB hg (hsize.trans hml.symm) (argsL := As) (rest := rest) (fun sig h => hn.trans (hlen sig h)) hstack hW (by rw [hb]; exact hdg)
    (fun vm₁ hW₁ => ⟨hf.1, hf.2, hPc (T.setVm vm₁) hT hW₁⟩) with ⟨v, vm₁, ⟨U', l2, c2, s2⟩, hW₁, X', ⟨g', mk, t, L, e1, e2, hq, h1, hL, h2, h3⟩, st⟩ | ⟨q, vm₁, ⟨U', l2, c2, s2⟩, hW₁, X', ⟨g', mk, t, L, E, ce, e1, e2, hq, hce, hcv, hcl, h1, hL, h2, h3⟩, st⟩
  · dsimp only [Pt.U, Pt.locs, Pt.cells, Pt.slots] at X' e1 e2 h1 h2 h3 st
    subst h1; subst h2; subst h3
    exact Or.inl ⟨v, (T.setVm vm₁).calling g' mk (Value.ref b :: As).toArray, t, U', L, hT, X', hL, e1, e2, hq, st⟩
  · dsimp only [Pt.U, Pt.locs, Pt.cells, Pt.slots] at X' e1 e2 h1 h2 h3 st hcl
    subst h1; subst h2; subst h3
    exact Or.inr ⟨q, (T.setVm vm₁).calling g' mk (Value.ref b :: As).toArray, t, U', L, E, ce, hT, X', hL, e1, e2, hq, hce, hcv, vx_cls hW₁ hcl, st⟩
theorem vx_runS (S : CallFix p m c cc nL s args Ts own) (hM : vx_Met l y ws rm Pc Qc XC mc ms free) (cw : CallB R s args own index y bytes maxL ret ws rm mc ms n ∧ (Cond.static y).before args s = true) (hp : PreS s H Pc As)
    (hg : g.method = m) (hn : As.length = n) (hsize : g.locals.size = nL) (hstack : g.stack = As.reverse ++ rest) (hW : 2 * g.monitorRoom + (rest.map fun v => v.category).sum ≤ 8) (hdg : decode cc g.pc = .ok (.invokestatic index, 3)) (hf : cells + mc ≤ R.cells ∧ slots + ms ≤ R.slots) :
    vx_Run p l e R s m args below meth c H locs cells slots mc ms g rest (Qc As.toArray) XC free := by
  have hK : vx_Back l R p e below s args y 3 8 (PreOf R mc ms Pc) (PostOf Qc mc ms free) (vx_Post XC mc ms free) := vx_callBack cw.1 hM hp.1
  obtain ⟨⟨-, -, -, -, -, -, hcode, hini, hy, hlen, hl⟩, hstt⟩ := cw
  obtain ⟨hx, hb, hml, ho, -⟩ := S
  intro T hT X
  rcases vx_callS X hx (bytes := bytes) (maxL := maxL) (ret := ret) ho hl hstt hini hcode hy hK hg (hsize.trans hml.symm) (argsL := As) (rest := rest) (fun sig h => hn.trans (hlen sig h)) hstack hW (by rw [hb]; exact hdg)
    (fun vm₁ hW₁ => ⟨hf.1, hf.2, hp.2 (T.setVm vm₁) hT hW₁⟩) with ⟨v, vm₁, ⟨U', l2, c2, s2⟩, hW₁, X', ⟨g', mk, t, L, e1, e2, hq, h1, hL, h2, h3⟩, st⟩ | ⟨q, vm₁, ⟨U', l2, c2, s2⟩, hW₁, X', ⟨g', mk, t, L, E, ce, e1, e2, hq, hce, hcv, hcl, h1, hL, h2, h3⟩, st⟩
  · dsimp only [Pt.U, Pt.locs, Pt.cells, Pt.slots] at X' e1 e2 h1 h2 h3 st
    subst h1; subst h2; subst h3
    exact Or.inl ⟨v, (T.setVm vm₁).calling g' mk As.toArray, t, U', L, hT, X', hL, e1, e2, hq, st⟩
  · dsimp only [Pt.U, Pt.locs, Pt.cells, Pt.slots] at X' e1 e2 h1 h2 h3 st hcl
    subst h1; subst h2; subst h3
    exact Or.inr ⟨q, (T.setVm vm₁).calling g' mk As.toArray, t, U', L, E, ce, hT, X', hL, e1, e2, hq, hce, hcv, vx_cls hW₁ hcl, st⟩
end Runs
section Rows
variable {p : Program} {l : Launch} {e : Env} {R : Room} {s : State} {m : MethodId} {args : Array Value} {below : List Frame} {meth : Method} {c : Code} {H : Heap} {locs : List Loc} {cells slots : Nat} {Q : State → Prop}
variable {mc ms : Nat} {free : Addr → Prop} {A0 A1 : Nat → Prop} {H0 : Heap} {a : Array Value} {pc : Nat} {ls : Array Slot} {st0 rest : List Value}
theorem vx_keep {st₀ t T' : State} {L : List Loc} (h0 : st₀.heap = H) (e1 : T'.heap = t.heap) (hS : va_S A0 H0 H locs) (hA : ∀ q, q < H.size → A1 q → A0 q) (hf : ∀ q, free q → A0 q) (hL : ∀ q ∈ L, free q.base) (hF : va_F A1 st₀ t) :
    H.size ≤ T'.heap.size ∧ (∀ q : Nat, q < H.size → ¬ A1 q → T'.heap[q]? = H[q]?) ∧ va_S A0 H0 T'.heap (locs ++ L) := by
  obtain ⟨hz, hk⟩ := hF
  rw [h0] at hz hk
  exact ⟨by rw [e1]; exact hz, fun q h1 h2 => by rw [e1]; exact hk q h1 h2,
    ⟨Nat.le_trans hS.1 (by rw [e1]; exact hz), fun q h1 h2 => by rw [e1, hk q (Nat.lt_of_lt_of_le h1 hS.1) (fun z => h2 (hA q (Nat.lt_of_lt_of_le h1 hS.1) z))]; exact hS.2.1 q h1 h2, fun q hq => by
      rcases List.mem_append.mp hq with h | h
      · exact hS.2.2 q h
      · exact hf _ (hL q h)⟩⟩
theorem vx_calli {S SX : Type} {post : Int32 → S → Prop} {px : SX → Prop} {B : S → State → Prop} {BX : String → SX → State → Prop} {AX : Nat → Prop} (hr : vx_Run p l e R s m args below meth c H locs cells slots mc ms (F0 m pc ls st0) rest (va_Qi post B A1 a) (vx_X px BX AX) free) (hS : va_S A0 H0 H locs) (hA : ∀ q, q < H.size → A1 q → A0 q) (hf : ∀ q, free q → A0 q) (hAX : ∀ q, q < H.size → AX q → A0 q)
    (kx : ∀ (E : String) (ce : Cell) (q9 : Addr) (u : SX) (t : State) (H1 : Heap) (locs1 : List Loc), t.heap = H1 → s.vm.Alike t.vm → px u → BX E u t → H.size ≤ H1.size → (∀ q : Nat, q < H.size → ¬ AX q → H1[q]? = H[q]?) → va_S A0 H0 H1 locs1 → H1[q9]? = some ce → ce.vm = .none → s.vm.findClass E = some ce.cls → vx_W p l e R s m args below meth c H1 locs1 (cells + mc) (slots + ms) Q (F0 m pc ls rest) q9)
    (kk : ∀ (r : Int32) (u : S) (t : State) (H1 : Heap) (locs1 : List Loc), t.heap = H1 → s.vm.Alike t.vm → post r u → B u t → H.size ≤ H1.size → (∀ q : Nat, q < H.size → ¬ A1 q → H1[q]? = H[q]?) → va_S A0 H0 H1 locs1 → W p l e R s m args below meth c H1 locs1 (cells + mc) (slots + ms) Q (F0 m (pc + 3) ls (.int r :: rest))) : W p l e R s m args below meth c H locs cells slots Q (F0 m pc ls st0) := by
  intro T hT X
  rcases hr T hT X with ⟨v, st₀, t, T', L, h0, X', hL, e1, e2, ⟨⟨r, u, hv, hp, hb⟩, hF⟩, st⟩ | ⟨q, st₀, t, T', L, E, ce, h0, X', hL, e1, e2, ⟨u, hp, hb, hF⟩, hce, hcv, hcl, st⟩
  · cases hv
    obtain ⟨k1, k2, k3⟩ := vx_keep h0 e1 hS hA hf hL hF
    obtain ⟨t2, a1, b1⟩ := kk r u t T'.heap (locs ++ L) e1.symm (by rw [← e2]; exact X'.warmed.alike) hp hb k1 k2 k3 T' rfl X'
    exact ⟨t2, st t2 a1, b1⟩
  · obtain ⟨k1, k2, k3⟩ := vx_keep h0 e1 hS hAX hf hL hF
    obtain ⟨t2, a1, b1⟩ := kx E ce q u t T'.heap (locs ++ L) e1.symm (by rw [← e2]; exact X'.warmed.alike) hp hb k1 k2 k3 (by rw [e1]; exact hce) hcv hcl T' rfl X'
    exact ⟨t2, st.trans a1, b1⟩
theorem vx_calll {S SX : Type} {post : Int64 → S → Prop} {px : SX → Prop} {B : S → State → Prop} {BX : String → SX → State → Prop} {AX : Nat → Prop} (hr : vx_Run p l e R s m args below meth c H locs cells slots mc ms (F0 m pc ls st0) rest (va_Ql post B A1 a) (vx_X px BX AX) free) (hS : va_S A0 H0 H locs) (hA : ∀ q, q < H.size → A1 q → A0 q) (hf : ∀ q, free q → A0 q) (hAX : ∀ q, q < H.size → AX q → A0 q)
    (kx : ∀ (E : String) (ce : Cell) (q9 : Addr) (u : SX) (t : State) (H1 : Heap) (locs1 : List Loc), t.heap = H1 → s.vm.Alike t.vm → px u → BX E u t → H.size ≤ H1.size → (∀ q : Nat, q < H.size → ¬ AX q → H1[q]? = H[q]?) → va_S A0 H0 H1 locs1 → H1[q9]? = some ce → ce.vm = .none → s.vm.findClass E = some ce.cls → vx_W p l e R s m args below meth c H1 locs1 (cells + mc) (slots + ms) Q (F0 m pc ls rest) q9)
    (kk : ∀ (r : Int64) (u : S) (t : State) (H1 : Heap) (locs1 : List Loc), t.heap = H1 → s.vm.Alike t.vm → post r u → B u t → H.size ≤ H1.size → (∀ q : Nat, q < H.size → ¬ A1 q → H1[q]? = H[q]?) → va_S A0 H0 H1 locs1 → W p l e R s m args below meth c H1 locs1 (cells + mc) (slots + ms) Q (F0 m (pc + 3) ls (.long r :: rest))) : W p l e R s m args below meth c H locs cells slots Q (F0 m pc ls st0) := by
  intro T hT X
  rcases hr T hT X with ⟨v, st₀, t, T', L, h0, X', hL, e1, e2, ⟨⟨r, u, hv, hp, hb⟩, hF⟩, st⟩ | ⟨q, st₀, t, T', L, E, ce, h0, X', hL, e1, e2, ⟨u, hp, hb, hF⟩, hce, hcv, hcl, st⟩
  · cases hv
    obtain ⟨k1, k2, k3⟩ := vx_keep h0 e1 hS hA hf hL hF
    obtain ⟨t2, a1, b1⟩ := kk r u t T'.heap (locs ++ L) e1.symm (by rw [← e2]; exact X'.warmed.alike) hp hb k1 k2 k3 T' rfl X'
    exact ⟨t2, st t2 a1, b1⟩
  · obtain ⟨k1, k2, k3⟩ := vx_keep h0 e1 hS hAX hf hL hF
    obtain ⟨t2, a1, b1⟩ := kx E ce q u t T'.heap (locs ++ L) e1.symm (by rw [← e2]; exact X'.warmed.alike) hp hb k1 k2 k3 (by rw [e1]; exact hce) hcv hcl T' rfl X'
    exact ⟨t2, st.trans a1, b1⟩
theorem vx_callf {S SX : Type} {post : UInt32 → S → Prop} {px : SX → Prop} {B : S → State → Prop} {BX : String → SX → State → Prop} {AX : Nat → Prop} (hr : vx_Run p l e R s m args below meth c H locs cells slots mc ms (F0 m pc ls st0) rest (va_Qf post B A1 a) (vx_X px BX AX) free) (hS : va_S A0 H0 H locs) (hA : ∀ q, q < H.size → A1 q → A0 q) (hf : ∀ q, free q → A0 q) (hAX : ∀ q, q < H.size → AX q → A0 q)
    (kx : ∀ (E : String) (ce : Cell) (q9 : Addr) (u : SX) (t : State) (H1 : Heap) (locs1 : List Loc), t.heap = H1 → s.vm.Alike t.vm → px u → BX E u t → H.size ≤ H1.size → (∀ q : Nat, q < H.size → ¬ AX q → H1[q]? = H[q]?) → va_S A0 H0 H1 locs1 → H1[q9]? = some ce → ce.vm = .none → s.vm.findClass E = some ce.cls → vx_W p l e R s m args below meth c H1 locs1 (cells + mc) (slots + ms) Q (F0 m pc ls rest) q9)
    (kk : ∀ (r : UInt32) (u : S) (t : State) (H1 : Heap) (locs1 : List Loc), t.heap = H1 → s.vm.Alike t.vm → post r u → B u t → H.size ≤ H1.size → (∀ q : Nat, q < H.size → ¬ A1 q → H1[q]? = H[q]?) → va_S A0 H0 H1 locs1 → W p l e R s m args below meth c H1 locs1 (cells + mc) (slots + ms) Q (F0 m (pc + 3) ls (.float r :: rest))) : W p l e R s m args below meth c H locs cells slots Q (F0 m pc ls st0) := by
  intro T hT X
  rcases hr T hT X with ⟨v, st₀, t, T', L, h0, X', hL, e1, e2, ⟨⟨r, u, hv, hp, hb⟩, hF⟩, st⟩ | ⟨q, st₀, t, T', L, E, ce, h0, X', hL, e1, e2, ⟨u, hp, hb, hF⟩, hce, hcv, hcl, st⟩
  · cases hv
    obtain ⟨k1, k2, k3⟩ := vx_keep h0 e1 hS hA hf hL hF
    obtain ⟨t2, a1, b1⟩ := kk r u t T'.heap (locs ++ L) e1.symm (by rw [← e2]; exact X'.warmed.alike) hp hb k1 k2 k3 T' rfl X'
    exact ⟨t2, st t2 a1, b1⟩
  · obtain ⟨k1, k2, k3⟩ := vx_keep h0 e1 hS hAX hf hL hF
    obtain ⟨t2, a1, b1⟩ := kx E ce q u t T'.heap (locs ++ L) e1.symm (by rw [← e2]; exact X'.warmed.alike) hp hb k1 k2 k3 (by rw [e1]; exact hce) hcv hcl T' rfl X'
    exact ⟨t2, st.trans a1, b1⟩
theorem vx_calld {S SX : Type} {post : UInt64 → S → Prop} {px : SX → Prop} {B : S → State → Prop} {BX : String → SX → State → Prop} {AX : Nat → Prop} (hr : vx_Run p l e R s m args below meth c H locs cells slots mc ms (F0 m pc ls st0) rest (va_Qd post B A1 a) (vx_X px BX AX) free) (hS : va_S A0 H0 H locs) (hA : ∀ q, q < H.size → A1 q → A0 q) (hf : ∀ q, free q → A0 q) (hAX : ∀ q, q < H.size → AX q → A0 q)
    (kx : ∀ (E : String) (ce : Cell) (q9 : Addr) (u : SX) (t : State) (H1 : Heap) (locs1 : List Loc), t.heap = H1 → s.vm.Alike t.vm → px u → BX E u t → H.size ≤ H1.size → (∀ q : Nat, q < H.size → ¬ AX q → H1[q]? = H[q]?) → va_S A0 H0 H1 locs1 → H1[q9]? = some ce → ce.vm = .none → s.vm.findClass E = some ce.cls → vx_W p l e R s m args below meth c H1 locs1 (cells + mc) (slots + ms) Q (F0 m pc ls rest) q9)
    (kk : ∀ (r : UInt64) (u : S) (t : State) (H1 : Heap) (locs1 : List Loc), t.heap = H1 → s.vm.Alike t.vm → post r u → B u t → H.size ≤ H1.size → (∀ q : Nat, q < H.size → ¬ A1 q → H1[q]? = H[q]?) → va_S A0 H0 H1 locs1 → W p l e R s m args below meth c H1 locs1 (cells + mc) (slots + ms) Q (F0 m (pc + 3) ls (.double r :: rest))) : W p l e R s m args below meth c H locs cells slots Q (F0 m pc ls st0) := by
  intro T hT X
  rcases hr T hT X with ⟨v, st₀, t, T', L, h0, X', hL, e1, e2, ⟨⟨r, u, hv, hp, hb⟩, hF⟩, st⟩ | ⟨q, st₀, t, T', L, E, ce, h0, X', hL, e1, e2, ⟨u, hp, hb, hF⟩, hce, hcv, hcl, st⟩
  · cases hv
    obtain ⟨k1, k2, k3⟩ := vx_keep h0 e1 hS hA hf hL hF
    obtain ⟨t2, a1, b1⟩ := kk r u t T'.heap (locs ++ L) e1.symm (by rw [← e2]; exact X'.warmed.alike) hp hb k1 k2 k3 T' rfl X'
    exact ⟨t2, st t2 a1, b1⟩
  · obtain ⟨k1, k2, k3⟩ := vx_keep h0 e1 hS hAX hf hL hF
    obtain ⟨t2, a1, b1⟩ := kx E ce q u t T'.heap (locs ++ L) e1.symm (by rw [← e2]; exact X'.warmed.alike) hp hb k1 k2 k3 (by rw [e1]; exact hce) hcv hcl T' rfl X'
    exact ⟨t2, st.trans a1, b1⟩
theorem vx_callv {S SX : Type} {post : S → Prop} {px : SX → Prop} {B : S → State → Prop} {BX : String → SX → State → Prop} {AX : Nat → Prop} (hr : vx_Run p l e R s m args below meth c H locs cells slots mc ms (F0 m pc ls st0) rest (va_Qv post B A1 a) (vx_X px BX AX) free) (hS : va_S A0 H0 H locs) (hA : ∀ q, q < H.size → A1 q → A0 q) (hf : ∀ q, free q → A0 q) (hAX : ∀ q, q < H.size → AX q → A0 q)
    (kx : ∀ (E : String) (ce : Cell) (q9 : Addr) (u : SX) (t : State) (H1 : Heap) (locs1 : List Loc), t.heap = H1 → s.vm.Alike t.vm → px u → BX E u t → H.size ≤ H1.size → (∀ q : Nat, q < H.size → ¬ AX q → H1[q]? = H[q]?) → va_S A0 H0 H1 locs1 → H1[q9]? = some ce → ce.vm = .none → s.vm.findClass E = some ce.cls → vx_W p l e R s m args below meth c H1 locs1 (cells + mc) (slots + ms) Q (F0 m pc ls rest) q9)
    (kk : ∀ (u : S) (t : State) (H1 : Heap) (locs1 : List Loc), t.heap = H1 → s.vm.Alike t.vm → post u → B u t → H.size ≤ H1.size → (∀ q : Nat, q < H.size → ¬ A1 q → H1[q]? = H[q]?) → va_S A0 H0 H1 locs1 → W p l e R s m args below meth c H1 locs1 (cells + mc) (slots + ms) Q (F0 m (pc + 3) ls (rest))) : W p l e R s m args below meth c H locs cells slots Q (F0 m pc ls st0) := by
  intro T hT X
  rcases hr T hT X with ⟨v, st₀, t, T', L, h0, X', hL, e1, e2, ⟨⟨u, hv, hp, hb⟩, hF⟩, st⟩ | ⟨q, st₀, t, T', L, E, ce, h0, X', hL, e1, e2, ⟨u, hp, hb, hF⟩, hce, hcv, hcl, st⟩
  · cases hv
    obtain ⟨k1, k2, k3⟩ := vx_keep h0 e1 hS hA hf hL hF
    obtain ⟨t2, a1, b1⟩ := kk u t T'.heap (locs ++ L) e1.symm (by rw [← e2]; exact X'.warmed.alike) hp hb k1 k2 k3 T' rfl X'
    exact ⟨t2, st t2 a1, b1⟩
  · obtain ⟨k1, k2, k3⟩ := vx_keep h0 e1 hS hAX hf hL hF
    obtain ⟨t2, a1, b1⟩ := kx E ce q u t T'.heap (locs ++ L) e1.symm (by rw [← e2]; exact X'.warmed.alike) hp hb k1 k2 k3 (by rw [e1]; exact hce) hcv hcl T' rfl X'
    exact ⟨t2, st.trans a1, b1⟩
/-- caught by the row x of this method's table; the rows ahead don't take it -/
theorem vx_catch {own name : String} {E : String} {ce : Cell} {q : Addr} (hown : s.vm.findClass own = some m.cls) (pre : List ExceptionTableEntry) (x : ExceptionTableEntry) (suf : List ExceptionTableEntry) (hsplit : c.exceptionTable.toList = pre ++ x :: suf)
    (hpass : ∀ z ∈ pre, covers z pc = false ∨ (z.catchType ≠ 0 ∧ ∃ nm : String, (Cond.classLink own z.catchType nm).before args s = true ∧ va_Nc E nm s)) (hx : covers x pc = true) (h0 : x.catchType ≠ 0)
    (hlink : (Cond.classLink own x.catchType name).before args s = true) (hcast : (Cond.castable E name).before args s = true) (hcell : H[q]? = some ce) (hv : ce.vm = .none) (hcl : s.vm.findClass E = some ce.cls)
    (kk : W p l e R s m args below meth c H locs cells slots Q (F0 m x.handlerPc ls [.ref q])) : vx_W p l e R s m args below meth c H locs cells slots Q (F0 m pc ls rest) q := by
  intro T hT X
  have hpl : e.platform.magicAccessors = ({} : Platform).magicAccessors := by rw [X.admits.platform]
  obtain ⟨c3, c4, hc3, hc4, hasg⟩ := Cond.castable_spec hcast
  cases Option.some.inj (hc3.symm.trans hcl)
  obtain ⟨c5, hc5, hcl5⟩ := Cond.classLink_spec hown hlink e.platform hpl
  cases Option.some.inj (hc4.symm.trans hc5)
  obtain ⟨vm', X', st⟩ := X.thenCaughtThrough q (g := F0 m pc ls rest) rfl (Steps.refl _) (by rw [hT]; exact hcell) (by rw [hv]; rfl) (by obtain ⟨k9, h9, -⟩ := Vm.findClass_spec hcl; exact ⟨k9, h9⟩) pre x suf hsplit
    (fun z hz => by
      rcases hpass z hz with h | ⟨hz0, nm, hl1, hn1⟩
      · exact Or.inl h
      · obtain ⟨c6, hc6, hcl6⟩ := Cond.classLink_spec hown hl1 e.platform hpl
        obtain ⟨a8, b8, h1, h2, h3⟩ := hn1
        cases Option.some.inj (h1.symm.trans hcl)
        cases Option.some.inj (h2.symm.trans hc6)
        exact Or.inr ⟨hz0, _, hcl6, h3⟩) hx (Or.inr ⟨h0, c4, hcl5, hasg⟩)
  obtain ⟨t, a1, b1⟩ := kk (T.setVm vm') hT X'
  exact ⟨t, st.trans a1, b1⟩
end Rows
section Ends
variable {p : Program} {l : Launch} {e : Env} {R : Room} {s : State} {m : MethodId} {args : Array Value} {below : List Frame} {meth : Method} {c : Code} {H : Heap} {locs : List Loc} {cells slots : Nat} {Q : State → Prop}
variable {mc ms : Nat} {free : Addr → Prop} {A0 A1 : Nat → Prop} {H0 : Heap} {a : Array Value} {ls : Array Slot} {st0 rest : List Value}
variable {Qc : Array Value → State → Outcome → State → Prop} {XC : String → State → State → Prop}
/-- what a body that may throw owes at its end -/
def vx_MQ (below : List Frame) (Qc : Array Value → State → Outcome → State → Prop) (XC : String → State → State → Prop) (a : Array Value) (s : State) (mc ms : Nat) (free : Addr → Prop) : State → Prop := fun t =>
  ∃ o, t.status = .running ∧ Ended t below o ∧ vx_Q Qc XC mc ms free a s o t
theorem vx_ret {g : JFrame} {mc ms : Nat} (k : W p l e R s m args below meth c H locs cells slots (MQ below Qc args s mc ms free) g) : W p l e R s m args below meth c H locs cells slots (vx_MQ below Qc XC args s mc ms free) g := by
  intro T hT X
  obtain ⟨t, a1, o, b1, b2, b3, b4⟩ := k T hT X
  exact ⟨t, a1, o, b1, b2, Or.inl ⟨b3, b4⟩⟩
/-- not caught here: it goes on to the caller -/
theorem vx_widen {g : JFrame} {q : Addr} {k n : Nat} (h1 : cells ≤ k) (h2 : slots ≤ n) (kk : vx_W p l e R s m args below meth c H locs k n Q g q) : vx_W p l e R s m args below meth c H locs cells slots Q g q := fun T hT X => kk T hT (stand_widen X h1 h2)
theorem vx_out {pc : Nat} {E : String} {ce : Cell} {q : Addr} {mc ms : Nat} (hout : ∀ x ∈ c.exceptionTable.toList, covers x pc = false) (hlocks : meth.locks = false) (hcell : H[q]? = some ce) (hv : ce.vm = .none) (hcl : s.vm.findClass E = some ce.cls)
    (hx : ∀ t : State, t.heap = H → s.vm.Alike t.vm → XC E s t) (hf : ∀ z ∈ locs, free z.base) (hc : cells ≤ mc) (hs : slots ≤ ms) :
    vx_W p l e R s m args below meth c H locs cells slots (vx_MQ below Qc XC args s mc ms free) (F0 m pc ls rest) q := by
  intro T hT X
  obtain ⟨st1, hrun, hend, hW, hsm⟩ := X.leaveThrown q (g := F0 m pc ls rest) rfl rfl rfl hout hlocks
  have hcell9 : (T.setFrames (.throwing q :: below)).heap[q]? = some ce := by
    show T.heap[q]? = some ce
    rw [hT]; exact hcell
  exact ⟨_, st1, .threw q, hrun, hend, Or.inr ⟨q, rfl, E, ce, locs, hx _ hT hW.alike, hcell9, hv, hcl, hW, hsm.mono hc hs, hf⟩⟩
theorem vx_frame {U : State} {k n : Nat} (h : s.sameButNew ({ U with vm := s.vm } : State) locs k n) : s.heap.size ≤ U.heap.size ∧ ∀ q : Nat, q < s.heap.size → (∀ z ∈ locs, z.base ≠ q) → U.heap[q]? = s.heap[q]? := by
  obtain ⟨-, h2, -, -, -, h6⟩ := h
  refine ⟨h2, fun q hq hz => ?_⟩
  obtain ⟨c9, e1, e2, e3, e4⟩ := h6 q _ (Array.getElem?_eq_getElem hq)
  have hs : c9.slots = (s.heap[q]).slots := Array.ext_getElem? fun i => e4 i fun hm => hz _ hm rfl
  have h9 : c9 = s.heap[q] := by
    rw [hs] at e2
    exact e2
  have e5 : U.heap[q]? = some c9 := e1
  rw [e5, h9, Array.getElem?_eq_getElem hq]
/-- the words of a throw but the four that speak of the heap -/
def vx_no (w : Cond) : Bool := decide (w ≠ .isRef (.static Bundle.tN "UNASSIGNED_STACK" Bundle.steD)) && decide (w ≠ .isRef (.static Bundle.tN "SUPPRESSED_SENTINEL" Bundle.listD)) && decide (w ≠ .laysStatic Bundle.tN "UNASSIGNED_STACK" Bundle.steD) && decide (w ≠ .laysStatic Bundle.tN "SUPPRESSED_SENTINEL" Bundle.listD)
def vx_at0 (own : String) (ic : Nat) (X : String) (names : List String) : List Cond := (Bundle.ownAtoms0 own ic X names).filter vx_no
def vx_atS (own : String) (ic : Nat) (X : String) (names : List String) : List Cond := (Bundle.ownAtoms own ic X names).filter vx_no
/-- a word that the tables alone decide, or a good one -/
def vx_ot (w : Cond) : Bool := w.onTables || goodWord w
theorem vx_ot_at {args a' : Array Value} {s U : State} {w : Cond} (hW : s.WarmedH U.vm) (hvm : s.vm = U.vm) (hg : vx_ot w = true) (h : w.before args s = true) : w.before a' U = true := by
  simp only [vx_ot, Bool.or_eq_true] at hg
  rcases hg with hg | hg
  · exact va_tabs hg hvm h
  · exact word_at hW (good_of_word hg) h
/-- a list's words: the good ones out of the method's own list, the others by premises of their own -/
theorem vx_hat {args : Array Value} {s : State} {L B : List Cond} (h1 : ∀ w ∈ L.filter goodWord, w.before args s = true) (h2 : ∀ w ∈ L.filter (fun w => !goodWord w), w ∈ B) (h3 : ∀ w ∈ B, w.before args s = true) : ∀ w ∈ L, w.before args s = true := by
  intro w hw
  by_cases g : goodWord w = true
  · exact h1 w (List.mem_filter.mpr ⟨hw, g⟩)
  · refine h3 w (h2 w (List.mem_filter.mpr ⟨hw, ?_⟩))
    show (!goodWord w) = true
    cases hgw : goodWord w
    · rfl
    · exact absurd hgw g
theorem vx_c {args : Array Value} {s : State} {w : Cond} {B : List Cond} (h : w.before args s = true) (t : ∀ w ∈ B, w.before args s = true) : ∀ w' ∈ w :: B, w'.before args s = true := fun w' h' => (List.mem_cons.mp h').elim (fun e => by rw [e]; exact h) (t w')
theorem vx_n {args : Array Value} {s : State} : ∀ w ∈ ([] : List Cond), w.before args s = true := fun _ h => nomatch h
theorem vx_own {args : Array Value} {s : State} {L : List Cond} (h1 : ∀ w ∈ L.filter vx_no, w.before args s = true)
    (hU : (Cond.isRef (.static Bundle.tN "UNASSIGNED_STACK" Bundle.steD)).before args s = true) (hN : (Cond.isRef (.static Bundle.tN "SUPPRESSED_SENTINEL" Bundle.listD)).before args s = true)
    (lU : (Cond.laysStatic Bundle.tN "UNASSIGNED_STACK" Bundle.steD).before args s = true) (lN : (Cond.laysStatic Bundle.tN "SUPPRESSED_SENTINEL" Bundle.listD).before args s = true) : ∀ w ∈ L, w.before args s = true := by
  intro w hw
  by_cases e1 : w = .isRef (.static Bundle.tN "UNASSIGNED_STACK" Bundle.steD)
  · rw [e1]; exact hU
  · by_cases e2 : w = .isRef (.static Bundle.tN "SUPPRESSED_SENTINEL" Bundle.listD)
    · rw [e2]; exact hN
    · by_cases e3 : w = .laysStatic Bundle.tN "UNASSIGNED_STACK" Bundle.steD
      · rw [e3]; exact lU
      · by_cases e4 : w = .laysStatic Bundle.tN "SUPPRESSED_SENTINEL" Bundle.listD
        · rw [e4]; exact lN
        · exact h1 w (List.mem_filter.mpr ⟨hw, by unfold vx_no; rw [decide_eq_true e1, decide_eq_true e2, decide_eq_true e3, decide_eq_true e4]; rfl⟩)
/-- where a static field lies, its class's statics cell in H -/
def vx_L (C n d : String) (A : Nat → Prop) (U : State) (H : Heap) : Prop := ∃ (c : ClassId) (k : Class) (i : Nat) (f : Field) (a : Nat) (cell : Cell), U.vm.findClass C = some c ∧ U.fieldFound? C n d = some (c, k, i, f) ∧ f.isStatic = true ∧ k.statics = some a ∧ H[a]? = some cell ∧ cell.vm.isStatics = true ∧ cell.cls = c ∧ f.slot < cell.slots.size ∧ k.staticTypes[f.slot]? = some f.type ∧ ¬ A a
theorem vx_L.moved {C n d : String} {A : Nat → Prop} {u U : State} {H : Heap} (hvm : u.vm.Alike U.vm) (h : vx_L C n d A u H) : vx_L C n d A U H := by
  obtain ⟨c, k, i, f, a, cell, h1, h2, h3, h4, h5, h6, h7, h8, h9, h10⟩ := h
  obtain ⟨k', hi', he⟩ := State.fieldFound?_setVm hvm h2
  exact ⟨c, k', i, f, a, cell, by rw [hvm.findClass]; exact h1, hi', h3, by rw [he]; exact h4, h5, h6, h7, h8, by rw [he]; exact h9, h10⟩
theorem vx_L.kept {C n d : String} {A : Nat → Prop} {U : State} {H H1 : Heap} (h : vx_L C n d A U H) (hq : ∀ a : Nat, a < H.size → ¬ A a → H1[a]? = H[a]?) : vx_L C n d A U H1 := by
  obtain ⟨c, k, i, f, a, cell, h1, h2, h3, h4, h5, h6, h7, h8, h9, h10⟩ := h
  exact ⟨c, k, i, f, a, cell, h1, h2, h3, h4, by rw [hq a (Array.getElem?_eq_some_iff.mp h5).1 h10]; exact h5, h6, h7, h8, h9, h10⟩
theorem vx_L.narrow {C n d : String} {A B : Nat → Prop} {U : State} {H : Heap} (h : vx_L C n d A U H) (hAB : ∀ q, B q → A q) : vx_L C n d B U H := by
  obtain ⟨c, k, i, f, a, cell, h1, h2, h3, h4, h5, h6, h7, h8, h9, h10⟩ := h
  exact ⟨c, k, i, f, a, cell, h1, h2, h3, h4, h5, h6, h7, h8, h9, fun z => h10 (hAB _ z)⟩
theorem vx_L.word {C n d : String} {A : Nat → Prop} {s : State} {args : Array Value} (h : vx_L C n d A s s.heap) : (Cond.laysStatic C n d).before args s = true := by
  obtain ⟨c, k, i, f, a, cell, h1, h2, h3, h4, h5, h6, h7, h8, h9, -⟩ := h
  show (Cond.laysStatic C n d).holds args s none s [] = true
  exact Cond.laysStatic_of h1 h2 h3 h4 h5 h6 h7 h8 h9
/-- .. and what it holds: null or some reference -/
def vx_Zq (C n d : String) (A : Nat → Prop) (U : State) (H : Heap) : Prop := va_Zq C n d A U H ∧ vx_L C n d A U H
theorem vx_Zq.moved {C n d : String} {A : Nat → Prop} {u U : State} {H : Heap} (hvm : u.vm.Alike U.vm) (h : vx_Zq C n d A u H) : vx_Zq C n d A U H := ⟨va_Zq.moved hvm h.1, vx_L.moved hvm h.2⟩
theorem vx_Zq.kept {C n d : String} {A : Nat → Prop} {U : State} {H H1 : Heap} (h : vx_Zq C n d A U H) (hq : ∀ a : Nat, a < H.size → ¬ A a → H1[a]? = H[a]?) : vx_Zq C n d A U H1 := ⟨va_Zq.kept h.1 hq, vx_L.kept h.2 hq⟩
theorem vx_Zq.narrow {C n d : String} {A B : Nat → Prop} {U : State} {H : Heap} (h : vx_Zq C n d A U H) (hAB : ∀ q, B q → A q) : vx_Zq C n d B U H := ⟨va_Zq.narrow h.1 hAB, vx_L.narrow h.2 hAB⟩
theorem vx_Zqof {args : Array Value} {s : State} {C n d : String} {A : Nat → Prop} (hl : (Cond.laysStatic C n d).before args s = true) (hini : (Cond.initialized C).before args s = true) (h : (Cond.isRef (.static C n d)).before args s = true) (hA : ∀ a : Nat, a < s.heap.size → ¬ A a) : vx_Zq C n d A s s.heap := by
  refine ⟨va_Zqof hl hini h hA, ?_⟩
  obtain ⟨c, k, i, f, a, cell, h1, h2, h3, h4, h5, h6, h7, h8, h9⟩ := Cond.laysStatic_spec hl
  exact ⟨c, k, i, f, a, cell, h1, h2, h3, h4, h5, h6, h7, h8, h9, hA a (Array.getElem?_eq_some_iff.mp h5).1⟩
theorem vx_isRef {C n d : String} {v : Value} {A : Nat → Prop} {s : State} {args : Array Value} (h : va_Z C n d v A s s.heap) (hv : v.isRef = true) : (Cond.isRef (.static C n d)).before args s = true := by
  obtain ⟨cf, kf, fi, f, a, cell, h1, h2, h3, h4, h5, h6, h7, -⟩ := h
  have he : (Term.static C n d).eval args s none [] s = some v := by
    simp [Term.eval, State.fieldNamed?, h1, h2, h4, h5, h6, h7]
  simp only [Cond.before, Cond.holds, Cond.value, he]
  cases v <;> simp_all [Value.isRef]
theorem vx_isRefq {C n d : String} {A : Nat → Prop} {s : State} {args : Array Value} (h : va_Zq C n d A s s.heap) : (Cond.isRef (.static C n d)).before args s = true := by
  rcases h with h | ⟨t, h⟩
  · exact vx_isRef h rfl
  · exact vx_isRef h rfl
/-- the same frame, seen from here: as if the method were called anew in this heap -/
theorem vx_rebase {T : State} (X : Stand p l e R s m args below meth c T locs cells slots) {R' : Room} (hf : R'.frames ≤ R.frames) (hl : R'.locals ≤ R.locals) (hc : cells + R'.cells ≤ R.cells) (hs : slots + R'.slots ≤ R.slots) :
    Stand p l e R' ((T.setVm s.vm).setFrames (.invoking m args :: below)) m args below meth c T [] 0 0 := by
  have htop : (T.setVm s.vm).topJava?.isSome := X.here.top
  have hF : ((T.setVm s.vm).setFrames (.invoking m args :: below)).frames = .invoking m args :: below := State.frames_setFrames _ (State.cur_lt_of_top htop)
  obtain ⟨g₀, hg0⟩ := Option.isSome_iff_exists.mp htop
  obtain ⟨r, hr⟩ := State.topJava?_eq_some.mp hg0
  have hl9 : e.platform.stackLimits (T.setVm s.vm).me = e.platform.stackLimits s.me := X.limits
  have hb9 : (T.setVm s.vm).me.stackBytes = s.me.stackBytes := X.bytes
  refine ⟨X.admits, X.cas, X.clock, hF, ?_, X.hears, X.method, X.code, X.here, X.tail, X.warmed, ?_, ?_, ?_⟩
  · have h := X.room
    have hU : ((T.setVm s.vm).setFrames (.invoking m args :: below)).localsInUse = s.localsInUse := by
      rw [State.localsInUse_invoking hF (meth := meth) (c := c) X.method X.code, State.localsInUse_invoking X.frames X.method X.code]
    simp only [State.hasRoom, Bool.and_eq_true, decide_eq_true_eq] at h ⊢
    obtain ⟨⟨⟨⟨h1, h2, h3, h4, h5, h6⟩, h7⟩, h8⟩, h9⟩ := h
    rw [X.frames, List.length_cons] at h2 h3
    have q1 := X.heapSize
    have q2 := X.used
    simp only [hF, hU, List.length_cons, State.stackLimits_setFrames, State.stackBytes_setFrames, hl9, hb9]
    refine ⟨⟨⟨⟨by omega, by omega, by omega, by omega, by omega, h6⟩, ?_⟩, ?_⟩, X.book⟩
    · show T.heap.size + R'.cells ≤ e.platform.maxCells
      omega
    · show T.slotsUsed + R'.slots ≤ e.platform.maxSlots
      omega
  · rw [State.stackLimits_setFrames]; rfl
  · rw [State.stackBytes_setFrames]; rfl
  · refine ⟨?_, Nat.le_refl _, Nat.le_refl _, ?_, ?_, fun a c9 h9 => ⟨c9, h9, rfl, rfl, fun _ _ => rfl⟩⟩
    · obtain ⟨t, ht, -⟩ := State.frames_cons hr
      show T.setVm s.vm = { ((T.setVm s.vm).setFrames (.invoking m args :: below)).setFrames (T.setVm s.vm).frames with heap := T.heap, slotsUsed := T.slotsUsed }
      rw [State.setFrames_setFrames, State.setFrames_self ht]
      rfl
    · show T.slotsUsed = T.slotsUsed + ((T.heap.toList.drop T.heap.size).map (·.slots.size)).sum
      rw [List.drop_eq_nil_of_le (Nat.le_of_eq Array.length_toList)]
      rfl
    · show ((T.heap.toList.drop T.heap.size).map (·.slots.size)).sum ≤ 0
      rw [List.drop_eq_nil_of_le (Nat.le_of_eq Array.length_toList)]
      exact Nat.le_refl _
/-- 'throw new E()': new; dup; invokespecial; athrow -/
theorem vx_throw0 {cc : ByteArray} {pc : Nat} (hexec : p.tables.exec = Jvm.exec) (hb : c.code = cc) (hl : l.stackTraces = false) {own cls : String} {names : List String} {ik ic mc ms : Nat} {A : Nat → Prop}
    (hown : s.vm.findClass own = some m.cls) (hcls : Bundle.fit cls = true) (hnames : ∀ n ∈ names, Bundle.fit n = true)
    (hk : (Cond.classLink own ik cls).before args s = true) (hini : (Cond.initialized cls).before args s = true) (hat : ∀ w ∈ vx_at0 own ic cls names, w.before args s = true)
    (hgood : ∀ w ∈ Cond.classLink own ik cls :: Cond.initialized cls :: vx_at0 own ic cls names, vx_ot w = true)
    (hU : vx_Zq Bundle.tN "UNASSIGNED_STACK" Bundle.steD A s s.heap) (hN : vx_Zq Bundle.tN "SUPPRESSED_SENTINEL" Bundle.listD A s s.heap) (hS : va_S A s.heap H locs) (hsize : ls.size = c.maxLocals)
    (d0 : decode cc pc = .ok (.new ik, 3)) (d3 : decode cc (pc + 3) = .ok (.dup, 1)) (d4 : decode cc (pc + 4) = .ok (.invokespecial ic, 3)) (d7 : decode cc (pc + 7) = .ok (.athrow, 1))
    (hout : ∀ x ∈ c.exceptionTable.toList, covers x (pc + 7) = false)
    (hRframes : names.length + 3 < R.frames) (hRlocals : (rest.map fun v => v.category).sum + (13 * (names.length + 1) + 42) ≤ R.locals) (hRcells : cells + 1 ≤ R.cells) (hRslots : slots + 6 ≤ R.slots) (hlocks : meth.locks = false)
    (hx : ∀ t : State, s.vm.Alike t.vm → H.size ≤ t.heap.size → (∀ q : Nat, q < H.size → t.heap[q]? = H[q]?) → XC cls s t)
    (hf : ∀ z ∈ locs, free z.base) (hc : cells + 1 ≤ mc) (hs : slots + 6 ≤ ms) :
    W p l e R s m args below meth c H locs cells slots (vx_MQ below Qc XC args s mc ms free) (F0 m pc ls rest) := by
  intro T hT X
  have htr : e.platform.stackTraces = false := (show e.platform.stackTraces = l.stackTraces by rw [X.admits.platform]).trans hl
  have Y := vx_rebase X (R' := { frames := R.frames, locals := R.locals, cells := 1, slots := 6 }) (Nat.le_refl _) (Nat.le_refl _) hRcells hRslots
  obtain ⟨s', hA⟩ : ∃ z, z = (T.setVm s.vm).setFrames (.invoking m args :: below) := ⟨_, rfl⟩
  rw [← hA] at Y
  have hvm : s'.vm = s.vm := by rw [hA]; rfl
  have hhp : s'.heap = H := by rw [hA]; exact hT
  have hW0 : s.WarmedH s'.vm := by rw [hvm]; exact State.WarmedH.refl s
  have hat' : ∀ w ∈ vx_at0 own ic cls names, w.before args s' = true := fun w hw => vx_ot_at hW0 hvm.symm (hgood w (List.mem_cons_of_mem _ (List.mem_cons_of_mem _ hw))) (hat w hw)
  have hk' : (Cond.classLink own ik cls).before args s' = true := vx_ot_at hW0 hvm.symm (hgood _ List.mem_cons_self) hk
  have hini' : (Cond.initialized cls).before args s' = true := vx_ot_at hW0 hvm.symm (hgood _ (List.mem_cons_of_mem _ List.mem_cons_self)) hini
  have hU' : vx_Zq Bundle.tN "UNASSIGNED_STACK" Bundle.steD A s' s'.heap := by rw [hhp]; exact vx_Zq.moved hW0.alike (hU.kept hS.2.1)
  have hN' : vx_Zq Bundle.tN "SUPPRESSED_SENTINEL" Bundle.listD A s' s'.heap := by rw [hhp]; exact vx_Zq.moved hW0.alike (hN.kept hS.2.1)
  have h : ∀ w ∈ Bundle.ownAtoms0 own ic cls names, w.before args s' = true := vx_own hat' (vx_isRefq hU'.1) (vx_isRefq hN'.1) hU'.2.word hN'.2.word
  have hown' : s'.vm.findClass own = some m.cls := by rw [hvm]; exact hown
  have hins : (Cond.instantiable cls 6).before args s' = true := h _ (by simp [Bundle.ownAtoms0])
  obtain ⟨vm₁, cX, kX, hfX, hkX, -, -, X₁, st1⟩ := Y.newCold hexec (own := own) (C := cls) (index := ik) (n := 6) hown' hk' hins hini'
    (g := F0 m pc ls rest) rfl (by rw [hb]; exact d0) (Nat.le_refl _) (Nat.le_refl _)
  generalize hT1 : (T.setVm vm₁).pushCell { cls := cX, slots := kX.instanceTypes.map defaultValue, vm := .none } = T1 at X₁ st1
  have hcat : (Value.ref T.heap.size).category = 1 := rfl
  have hcellA : T1.heap[T.heap.size]? = some (freshCell cX kX) := by rw [← hT1]; exact State.heap_pushCell_size _ _
  have d3' : decode c.code (pc + 3) = .ok (.dup, 1) := by rw [hb]; exact d3
  obtain ⟨U, hsteps, hrun, hend, hW, hsame, ce, hce, hO⟩ := X₁.ctorThrow0 hexec htr (own := own) (cls := cls) (names := names) (ic := ic) hown' hcls hnames h (fun x hx => nomatch hx) hfX hkX hcellA (by rw [hhp, hT]; exact Nat.le_refl _)
    (g := { method := m, pc := pc + 4, locals := ls, stack := .ref T.heap.size :: .ref T.heap.size :: rest, locked := none }) rfl hsize rfl rfl (rest := rest) rfl
    (by rw [hb]; exact d4) (by rw [hb]; exact d7) hout hRframes (by simp only [List.map_cons, List.sum_cons, hcat]; omega) hlocks
  obtain ⟨f1, f2⟩ := vx_frame hsame
  rw [hhp] at f1 f2
  have hWs : s.WarmedH U.vm := State.WarmedH.trans hW0 hW
  have hcl : s.vm.findClass cls = some ce.cls := by
    have h9 := hO.cls
    rw [hvm] at h9
    exact h9
  have hall : s.sameButNew ({ U with vm := s.vm } : State) locs mc ms := by
    subst hA
    obtain ⟨e1, e2⟩ := hsame
    rw [State.setFrames_setFrames] at e1
    have h2 : (T.setVm s.vm).sameButNew ({ U with vm := s.vm } : State) [] (0 + 1) (0 + 6) := ⟨e1, e2⟩
    have h3 := X.same.trans h2
    rw [List.append_nil] at h3
    exact h3.mono hc hs
  refine ⟨U, ?_, .threw T.heap.size, hrun, hend, Or.inr ⟨T.heap.size, rfl, cls, ce, locs, hx U hWs.alike f1 (fun q hq => f2 q hq (fun z hz => nomatch hz)), hce, hO.vm, hcl, hWs, hall, hf⟩⟩
  refine st1 _ ?_
  show Steps p.tables e below (T1.setTop { method := m, pc := pc + 3, locals := ls, stack := .ref T.heap.size :: rest, locked := none }) _
  jvm_step X₁.here [X₁.here.top, hexec, d3', Value.category]
  exact hsteps
/-- 'throw new E("text")': new; dup; ldc; invokespecial; athrow -/
theorem vx_throwS {cc : ByteArray} {pc : Nat} (hexec : p.tables.exec = Jvm.exec) (hb : c.code = cc) (hl : l.stackTraces = false) {own cls text : String} {names : List String} {ik is ic mc ms sa : Nat} {A : Nat → Prop}
    (hown : s.vm.findClass own = some m.cls) (hcls : Bundle.fit cls = true) (hnames : ∀ n ∈ names, Bundle.fit n = true)
    (hk : (Cond.classLink own ik cls).before args s = true) (hini : (Cond.initialized cls).before args s = true) (hstr : vk_R own is text sa s) (hat : ∀ w ∈ vx_atS own ic cls names, w.before args s = true)
    (hgood : ∀ w ∈ Cond.classLink own ik cls :: Cond.initialized cls :: vx_atS own ic cls names, vx_ot w = true)
    (hU : vx_Zq Bundle.tN "UNASSIGNED_STACK" Bundle.steD A s s.heap) (hN : vx_Zq Bundle.tN "SUPPRESSED_SENTINEL" Bundle.listD A s s.heap) (hS : va_S A s.heap H locs) (hsize : ls.size = c.maxLocals)
    (d0 : decode cc pc = .ok (.new ik, 3)) (d3 : decode cc (pc + 3) = .ok (.dup, 1)) (d4 : decode cc (pc + 4) = .ok (.ldc is, 2)) (d6 : decode cc (pc + 6) = .ok (.invokespecial ic, 3)) (d9 : decode cc (pc + 9) = .ok (.athrow, 1))
    (hout : ∀ x ∈ c.exceptionTable.toList, covers x (pc + 9) = false)
    (hRframes : names.length + 3 < R.frames) (hRlocals : (rest.map fun v => v.category).sum + (13 * (names.length + 1) + 43) ≤ R.locals) (hRcells : cells + 1 ≤ R.cells) (hRslots : slots + 6 ≤ R.slots) (hlocks : meth.locks = false)
    (hx : ∀ t : State, s.vm.Alike t.vm → H.size ≤ t.heap.size → (∀ q : Nat, q < H.size → t.heap[q]? = H[q]?) → XC cls s t)
    (hf : ∀ z ∈ locs, free z.base) (hc : cells + 1 ≤ mc) (hs : slots + 6 ≤ ms) :
    W p l e R s m args below meth c H locs cells slots (vx_MQ below Qc XC args s mc ms free) (F0 m pc ls rest) := by
  intro T hT X
  have htr : e.platform.stackTraces = false := (show e.platform.stackTraces = l.stackTraces by rw [X.admits.platform]).trans hl
  have Y := vx_rebase X (R' := { frames := R.frames, locals := R.locals, cells := 1, slots := 6 }) (Nat.le_refl _) (Nat.le_refl _) hRcells hRslots
  obtain ⟨s', hA⟩ : ∃ z, z = (T.setVm s.vm).setFrames (.invoking m args :: below) := ⟨_, rfl⟩
  rw [← hA] at Y
  have hvm : s'.vm = s.vm := by rw [hA]; rfl
  have hhp : s'.heap = H := by rw [hA]; exact hT
  have hW0 : s.WarmedH s'.vm := by rw [hvm]; exact State.WarmedH.refl s
  have hat' : ∀ w ∈ vx_atS own ic cls names, w.before args s' = true := fun w hw => vx_ot_at hW0 hvm.symm (hgood w (List.mem_cons_of_mem _ (List.mem_cons_of_mem _ hw))) (hat w hw)
  have hk' : (Cond.classLink own ik cls).before args s' = true := vx_ot_at hW0 hvm.symm (hgood _ List.mem_cons_self) hk
  have hini' : (Cond.initialized cls).before args s' = true := vx_ot_at hW0 hvm.symm (hgood _ (List.mem_cons_of_mem _ List.mem_cons_self)) hini
  have hU' : vx_Zq Bundle.tN "UNASSIGNED_STACK" Bundle.steD A s' s'.heap := by rw [hhp]; exact vx_Zq.moved hW0.alike (hU.kept hS.2.1)
  have hN' : vx_Zq Bundle.tN "SUPPRESSED_SENTINEL" Bundle.listD A s' s'.heap := by rw [hhp]; exact vx_Zq.moved hW0.alike (hN.kept hS.2.1)
  have h : ∀ w ∈ Bundle.ownAtoms own ic cls names, w.before args s' = true := vx_own hat' (vx_isRefq hU'.1) (vx_isRefq hN'.1) hU'.2.word hN'.2.word
  have hown' : s'.vm.findClass own = some m.cls := by rw [hvm]; exact hown
  have hins : (Cond.instantiable cls 6).before args s' = true := h _ (by simp [Bundle.ownAtoms])
  obtain ⟨vm₁, cX, kX, hfX, hkX, -, -, X₁, st1⟩ := Y.newCold hexec (own := own) (C := cls) (index := ik) (n := 6) hown' hk' hins hini'
    (g := F0 m pc ls rest) rfl (by rw [hb]; exact d0) (Nat.le_refl _) (Nat.le_refl _)
  generalize hT1 : (T.setVm vm₁).pushCell { cls := cX, slots := kX.instanceTypes.map defaultValue, vm := .none } = T1 at X₁ st1
  have hcat : (Value.ref T.heap.size).category = 1 := rfl
  have hcellA : T1.heap[T.heap.size]? = some (freshCell cX kX) := by rw [← hT1]; exact State.heap_pushCell_size _ _
  have d3' : decode c.code (pc + 3) = .ok (.dup, 1) := by rw [hb]; exact d3
  have d4' : decode c.code (pc + 4) = .ok (.ldc is, 2) := by rw [hb]; exact d4
  have hstr' : vk_R own is text sa s' := vk_R.warm hW0 hstr
  obtain ⟨U, hsteps, hrun, hend, hW, hsame, ce, hce, hO⟩ := X₁.ctorThrowS hexec htr (own := own) (cls := cls) (names := names) (ic := ic) hown' hcls hnames h (fun x hx => nomatch hx) hfX hkX hcellA (by rw [hhp, hT]; exact Nat.le_refl _) (msg := .ref sa) rfl
    (g := { method := m, pc := pc + 6, locals := ls, stack := .ref sa :: .ref T.heap.size :: .ref T.heap.size :: rest, locked := none }) rfl hsize rfl rfl (rest := rest) rfl
    (by rw [hb]; exact d6) (by rw [hb]; exact d9) hout hRframes (by simp only [List.map_cons, List.sum_cons, hcat]; omega) hlocks
  obtain ⟨f1, f2⟩ := vx_frame hsame
  rw [hhp] at f1 f2
  have hWs : s.WarmedH U.vm := State.WarmedH.trans hW0 hW
  have hcl : s.vm.findClass cls = some ce.cls := by
    have h9 := hO.cls
    rw [hvm] at h9
    exact h9
  have hall : s.sameButNew ({ U with vm := s.vm } : State) locs mc ms := by
    subst hA
    obtain ⟨e1, e2⟩ := hsame
    rw [State.setFrames_setFrames] at e1
    have h2 : (T.setVm s.vm).sameButNew ({ U with vm := s.vm } : State) [] (0 + 1) (0 + 6) := ⟨e1, e2⟩
    have h3 := X.same.trans h2
    rw [List.append_nil] at h3
    exact h3.mono hc hs
  refine ⟨U, ?_, .threw T.heap.size, hrun, hend, Or.inr ⟨T.heap.size, rfl, cls, ce, locs, hx U hWs.alike f1 (fun q hq => f2 q hq (fun z hz => nomatch hz)), hce, hO.vm, hcl, hWs, hall, hf⟩⟩
  refine st1 _ ?_
  show Steps p.tables e below (T1.setTop { method := m, pc := pc + 3, locals := ls, stack := .ref T.heap.size :: rest, locked := none }) _
  jvm_step X₁.here [X₁.here.top, hexec, d3', Value.category]
  exact X₁.ldcString hexec (own := own) (text := text) (index := is) (a := sa) hown' hstr'.1 hstr'.2
    (g := { method := m, pc := pc + 4, locals := ls, stack := .ref T.heap.size :: .ref T.heap.size :: rest, locked := none }) rfl d4' _ hsteps
/-- 'throw new E("text")', the text by a wide index -/
theorem vx_throwSW {cc : ByteArray} {pc : Nat} (hexec : p.tables.exec = Jvm.exec) (hb : c.code = cc) (hl : l.stackTraces = false) {own cls text : String} {names : List String} {ik is ic mc ms sa : Nat} {A : Nat → Prop}
    (hown : s.vm.findClass own = some m.cls) (hcls : Bundle.fit cls = true) (hnames : ∀ n ∈ names, Bundle.fit n = true)
    (hk : (Cond.classLink own ik cls).before args s = true) (hini : (Cond.initialized cls).before args s = true) (hstr : vk_R own is text sa s) (hat : ∀ w ∈ vx_atS own ic cls names, w.before args s = true)
    (hgood : ∀ w ∈ Cond.classLink own ik cls :: Cond.initialized cls :: vx_atS own ic cls names, vx_ot w = true)
    (hU : vx_Zq Bundle.tN "UNASSIGNED_STACK" Bundle.steD A s s.heap) (hN : vx_Zq Bundle.tN "SUPPRESSED_SENTINEL" Bundle.listD A s s.heap) (hS : va_S A s.heap H locs) (hsize : ls.size = c.maxLocals)
    (d0 : decode cc pc = .ok (.new ik, 3)) (d3 : decode cc (pc + 3) = .ok (.dup, 1)) (d4 : decode cc (pc + 4) = .ok (.ldc_w is, 3)) (d7 : decode cc (pc + 7) = .ok (.invokespecial ic, 3)) (d10 : decode cc (pc + 10) = .ok (.athrow, 1))
    (hout : ∀ x ∈ c.exceptionTable.toList, covers x (pc + 10) = false)
    (hRframes : names.length + 3 < R.frames) (hRlocals : (rest.map fun v => v.category).sum + (13 * (names.length + 1) + 43) ≤ R.locals) (hRcells : cells + 1 ≤ R.cells) (hRslots : slots + 6 ≤ R.slots) (hlocks : meth.locks = false)
    (hx : ∀ t : State, s.vm.Alike t.vm → H.size ≤ t.heap.size → (∀ q : Nat, q < H.size → t.heap[q]? = H[q]?) → XC cls s t)
    (hf : ∀ z ∈ locs, free z.base) (hc : cells + 1 ≤ mc) (hs : slots + 6 ≤ ms) :
    W p l e R s m args below meth c H locs cells slots (vx_MQ below Qc XC args s mc ms free) (F0 m pc ls rest) := by
  intro T hT X
  have htr : e.platform.stackTraces = false := (show e.platform.stackTraces = l.stackTraces by rw [X.admits.platform]).trans hl
  have Y := vx_rebase X (R' := { frames := R.frames, locals := R.locals, cells := 1, slots := 6 }) (Nat.le_refl _) (Nat.le_refl _) hRcells hRslots
  obtain ⟨s', hA⟩ : ∃ z, z = (T.setVm s.vm).setFrames (.invoking m args :: below) := ⟨_, rfl⟩
  rw [← hA] at Y
  have hvm : s'.vm = s.vm := by rw [hA]; rfl
  have hhp : s'.heap = H := by rw [hA]; exact hT
  have hW0 : s.WarmedH s'.vm := by rw [hvm]; exact State.WarmedH.refl s
  have hat' : ∀ w ∈ vx_atS own ic cls names, w.before args s' = true := fun w hw => vx_ot_at hW0 hvm.symm (hgood w (List.mem_cons_of_mem _ (List.mem_cons_of_mem _ hw))) (hat w hw)
  have hk' : (Cond.classLink own ik cls).before args s' = true := vx_ot_at hW0 hvm.symm (hgood _ List.mem_cons_self) hk
  have hini' : (Cond.initialized cls).before args s' = true := vx_ot_at hW0 hvm.symm (hgood _ (List.mem_cons_of_mem _ List.mem_cons_self)) hini
  have hU' : vx_Zq Bundle.tN "UNASSIGNED_STACK" Bundle.steD A s' s'.heap := by rw [hhp]; exact vx_Zq.moved hW0.alike (hU.kept hS.2.1)
  have hN' : vx_Zq Bundle.tN "SUPPRESSED_SENTINEL" Bundle.listD A s' s'.heap := by rw [hhp]; exact vx_Zq.moved hW0.alike (hN.kept hS.2.1)
  have h : ∀ w ∈ Bundle.ownAtoms own ic cls names, w.before args s' = true := vx_own hat' (vx_isRefq hU'.1) (vx_isRefq hN'.1) hU'.2.word hN'.2.word
  have hown' : s'.vm.findClass own = some m.cls := by rw [hvm]; exact hown
  have hins : (Cond.instantiable cls 6).before args s' = true := h _ (by simp [Bundle.ownAtoms])
  obtain ⟨vm₁, cX, kX, hfX, hkX, -, -, X₁, st1⟩ := Y.newCold hexec (own := own) (C := cls) (index := ik) (n := 6) hown' hk' hins hini'
    (g := F0 m pc ls rest) rfl (by rw [hb]; exact d0) (Nat.le_refl _) (Nat.le_refl _)
  generalize hT1 : (T.setVm vm₁).pushCell { cls := cX, slots := kX.instanceTypes.map defaultValue, vm := .none } = T1 at X₁ st1
  have hcat : (Value.ref T.heap.size).category = 1 := rfl
  have hcellA : T1.heap[T.heap.size]? = some (freshCell cX kX) := by rw [← hT1]; exact State.heap_pushCell_size _ _
  have d3' : decode c.code (pc + 3) = .ok (.dup, 1) := by rw [hb]; exact d3
  have d4' : decode c.code (pc + 4) = .ok (.ldc_w is, 3) := by rw [hb]; exact d4
  have hstr' : vk_R own is text sa s' := vk_R.warm hW0 hstr
  obtain ⟨U, hsteps, hrun, hend, hW, hsame, ce, hce, hO⟩ := X₁.ctorThrowS hexec htr (own := own) (cls := cls) (names := names) (ic := ic) hown' hcls hnames h (fun x hx => nomatch hx) hfX hkX hcellA (by rw [hhp, hT]; exact Nat.le_refl _) (msg := .ref sa) rfl
    (g := { method := m, pc := pc + 7, locals := ls, stack := .ref sa :: .ref T.heap.size :: .ref T.heap.size :: rest, locked := none }) rfl hsize rfl rfl (rest := rest) rfl
    (by rw [hb]; exact d7) (by rw [hb]; exact d10) hout hRframes (by simp only [List.map_cons, List.sum_cons, hcat]; omega) hlocks
  obtain ⟨f1, f2⟩ := vx_frame hsame
  rw [hhp] at f1 f2
  have hWs : s.WarmedH U.vm := State.WarmedH.trans hW0 hW
  have hcl : s.vm.findClass cls = some ce.cls := by
    have h9 := hO.cls
    rw [hvm] at h9
    exact h9
  have hall : s.sameButNew ({ U with vm := s.vm } : State) locs mc ms := by
    subst hA
    obtain ⟨e1, e2⟩ := hsame
    rw [State.setFrames_setFrames] at e1
    have h2 : (T.setVm s.vm).sameButNew ({ U with vm := s.vm } : State) [] (0 + 1) (0 + 6) := ⟨e1, e2⟩
    have h3 := X.same.trans h2
    rw [List.append_nil] at h3
    exact h3.mono hc hs
  refine ⟨U, ?_, .threw T.heap.size, hrun, hend, Or.inr ⟨T.heap.size, rfl, cls, ce, locs, hx U hWs.alike f1 (fun q hq => f2 q hq (fun z hz => nomatch hz)), hce, hO.vm, hcl, hWs, hall, hf⟩⟩
  refine st1 _ ?_
  show Steps p.tables e below (T1.setTop { method := m, pc := pc + 3, locals := ls, stack := .ref T.heap.size :: rest, locked := none }) _
  jvm_step X₁.here [X₁.here.top, hexec, d3', Value.category]
  exact X₁.ldcStringW hexec (own := own) (text := text) (index := is) (a := sa) hown' hstr'.1 hstr'.2
    (g := { method := m, pc := pc + 4, locals := ls, stack := .ref T.heap.size :: .ref T.heap.size :: rest, locked := none }) rfl d4' _ hsteps
end Ends
section Bodies
variable {l : Launch}
theorem vx_ofW {y : MethodName} {ws ws' : List Cond} {rm : Room} {Pc : Array Value → State → Prop} {Qc : Array Value → State → Outcome → State → Prop} {XC : String → State → State → Prop} {mc ms : Nat} {free : Addr → Prop} {cc : ByteArray} {maxL : Nat} {ret : Option FieldType}
    (hy : plainName y.cls = true) (hw : ws = Cond.code y cc maxL ret :: ws')
    (body : ∀ p e s m args below meth c s₁, BodyLoose p l y (headSpec ws rm) cc maxL ret e s m args below meth c s₁ → c.maxLocals = maxL → (∀ x ∈ c.exceptionTable.toList, False) → Pc args s →
      W p l e (headSpec ws rm).room s m args below meth c s.heap [] 0 0 (vx_MQ below Qc XC args s mc ms free) (entryFrame m args maxL)) : vx_Met l y ws rm Pc Qc XC mc ms free := by
  refine MetFree.of_bodyS (code := cc) (maxLocals := maxL) (ret := ret) hy ?_ ?_
  · intro args s m h hn
    obtain ⟨meth, c, h1, h2, h3, h4, h5, h6, -, -⟩ := Cond.code_spec hn (atoms_spec (ws := ws) h _ (by rw [hw]; exact List.mem_cons_self))
    exact ⟨meth, c, h1, h2, h3, h4, h5, h6⟩
  · intro p e s m args below meth c s₁ B hml hP _
    have hh0 : s₁.heap = s.heap := by rw [B.state]; rfl
    have ht : ∀ x ∈ c.exceptionTable.toList, False := by
      obtain ⟨meth9, c9, h1, h2, -, -, -, -, h7, -⟩ := Cond.code_spec B.named (atoms_spec (ws := ws) B.pre _ (by rw [hw]; exact List.mem_cons_self))
      cases Option.some.inj (h1.symm.trans B.method)
      cases Option.some.inj (h2.symm.trans (Stand.of_body B).code)
      intro x hx
      rw [Array.isEmpty_iff.mp h7] at hx
      cases hx
    obtain ⟨t, a1, o, b1, b2, b3⟩ := body p e s m args below meth c s₁ B hml ht hP s₁ hh0 (Stand.of_body B)
    exact ⟨t, o, a1, b1, b2, b3⟩
/-- the table of a body with handlers -/
theorem vx_table {p : Program} {x y : MethodName} {S : Spec} {cc bytes : ByteArray} {maxL maxL' : Nat} {ret ret' : Option FieldType} {e : Env} {s s₁ : State} {m : MethodId} {args : Array Value} {below : List Frame} {meth : Method} {c : Code} {hh : List (Nat × Nat × Nat × Nat)}
    (B : BodyLoose p l y S cc maxL ret e s m args below meth c s₁) (h : (Cond.codeWith y bytes maxL' ret' hh).before args s = true) : c.exceptionTable.toList = tableOf hh := by
  obtain ⟨m9, meth9, c9, hn9, h1, h2, -, -, h6, -⟩ := Cond.codeWith_spec h
  cases Option.some.inj (hn9.symm.trans B.named)
  cases Option.some.inj (h1.symm.trans B.method)
  cases Option.some.inj (h2.symm.trans (Stand.of_body B).code)
  rw [← h6, table_eq]
end Bodies
end VXA
/-! ===== END ===== -/
/-! ===== BEGIN a static call of a method with an exception table ===== -/
section VXS
variable {p : Program} {l : Launch} {e : Env} {R : Room} {s : State} {m : MethodId} {args : Array Value} {below : List Frame} {meth : Method} {c : Code} {T : State} {H : Heap} {locs : List Loc} {cells slots : Nat}
abbrev vx_CSW (R : Room) (s : State) (args : Array Value) (own : String) (index : Nat) (y : MethodName) (bytes : ByteArray) (maxL : Nat) (ret : Option FieldType) (hh : List (Nat × Nat × Nat × Nat)) (ws : List Cond) (rm : Room) (mc ms n : Nat) : Prop :=
  (rm.cells = mc ∧ rm.slots = ms ∧ rm.frames + 1 ≤ R.frames ∧ 8 + (maxL + 11) + rm.locals ≤ R.locals ∧ (∀ w ∈ ws, ∀ (a' : Array Value) (U : State), s.WarmedH U.vm → w.before a' U = true) ∧ Cond.codeWith y bytes maxL ret hh ∈ ws) ∧
  (Cond.codeWith y bytes maxL ret hh).before args s = true ∧ (Cond.initialized y.cls).before args s = true ∧ (y.cls ≠ "java/lang/invoke/MethodHandle" ∧ y.cls ≠ "java/lang/invoke/VarHandle") ∧
  (∀ sig, parseMethodDescriptor y.desc = some sig → n = sig.parameters.length) ∧ (Cond.methodLink own index y).before args s = true ∧ (Cond.static y).before args s = true
theorem vx_cwSW {own : String} {index maxL mc ms : Nat} {y : MethodName} {bytes : ByteArray} {ret : Option FieldType} {hh : List (Nat × Nat × Nat × Nat)} {Ts ws ws' : List Cond} {rm : Room} (n : Nat) (ht : ∀ w ∈ Ts, w.before args s = true) (hT : GoodIn Ts (va_wsS own index y ws)) (hw : ws = Cond.codeWith y bytes maxL ret hh :: ws') (hrc : rm.cells = mc) (hrs : rm.slots = ms)
    (hd : y.cls ≠ "java/lang/invoke/MethodHandle" ∧ y.cls ≠ "java/lang/invoke/VarHandle" ∧ (parseMethodDescriptor y.desc).map (fun d => d.parameters.length) = some n) (hR : rm.frames + 1 ≤ R.frames ∧ 8 + (maxL + 11) + rm.locals ≤ R.locals) :
    vx_CSW R s args own index y bytes maxL ret hh ws rm mc ms n := by
  have ok : ∀ w ∈ va_wsS own index y ws, w.before args s = true := fun w h => ht w (hT w h).1
  have hG : GoodIn Ts ws := fun w h => hT w (by unfold va_wsS; exact List.mem_append_right _ h)
  have hc : Cond.codeWith y bytes maxL ret hh ∈ ws := by rw [hw]; exact List.mem_cons_self
  refine ⟨⟨hrc, hrs, hR.1, hR.2, pay_in ht hG, hc⟩, ht _ (hG _ hc).1, ok _ (by simp [va_wsS]), ⟨hd.1, hd.2.1⟩, fun sig h => ?_, ok _ (by simp [va_wsS]), ok _ (by simp [va_wsS])⟩
  have h2 := hd.2.2
  rw [h] at h2
  exact (Option.some.inj h2).symm
theorem vx_callSW (X : Stand p l e R s m args below meth c T locs cells slots) (hexec : p.tables.exec = Jvm.exec) {own : String} {index : Nat} {y : MethodName} {bytes : ByteArray} {maxL : Nat} {ret : Option FieldType} {hh : List (Nat × Nat × Nat × Nat)}
    (hown : s.vm.findClass own = some m.cls) (hlink : (Cond.methodLink own index y).before args s = true) (hstat : (Cond.static y).before args s = true) (hinit : (Cond.initialized y.cls).before args s = true)
    (hcode : (Cond.codeWith y bytes maxL ret hh).before args s = true) (hy : y.cls ≠ "java/lang/invoke/MethodHandle" ∧ y.cls ≠ "java/lang/invoke/VarHandle")
    {W9 : Nat} {Pre : Pt → Array Value → Prop} {Post : Pt → Array Value → Option Value → Pt → Prop} (hK : Back l R p e below s args y 3 W9 Pre Post)
    {g : JFrame} (hg : g.method = m) (hsize : g.locals.size = c.maxLocals) {argsL rest : List Value} (hlen : ∀ sig, parseMethodDescriptor y.desc = some sig → argsL.length = sig.parameters.length)
    (hstack : g.stack = argsL.reverse ++ rest) (hW : 2 * g.monitorRoom + (rest.map fun v => v.category).sum ≤ W9) (hdg : decode c.code g.pc = .ok (.invokestatic index, 3))
    (hpre : ∀ vm₁, s.WarmedH vm₁ → Pre ⟨T.setVm vm₁, locs, cells, slots⟩ argsL.toArray) :
    ∃ (v : Option Value) (vm₁ : Vm) (B : Pt), s.WarmedH vm₁ ∧ Stand p l e R s m args below meth c B.U B.locs B.cells B.slots ∧ Post ⟨T.setVm vm₁, locs, cells, slots⟩ argsL.toArray v B ∧
      ∀ target, Steps p.tables e below (B.U.setTop { g with pc := g.pc + 3, stack := v.toList ++ rest }) target → Steps p.tables e below (T.setTop g) target := by
  obtain ⟨mk, methM, cM, hnamed, hmethM, -, -, -, -, -, -, hsigM⟩ := Cond.codeWith_spec hcode
  have hstatic : methM.isStatic = true := Cond.static_spec hnamed hmethM hstat
  obtain ⟨kP, hkP, -⟩ := className_of_methodNamed hnamed
  have hinitP : kP.init = .initialized := Cond.initialized_spec (findClass_of_methodNamed hnamed) hkP hinit
  obtain ⟨vm₁, X₁, hstep₁⟩ := X.invokestatic hexec hown hlink hnamed hmethM hstatic hkP hinitP hy (g := g) hg (argsL := argsL) (rest := rest) (hlen _ hsigM) hstack hdg
  obtain ⟨v, B, X', hpost, hsteps⟩ := hK m meth c ⟨T.setVm vm₁, locs, cells, slots⟩ { g with stack := rest } (.invokestatic index) mk argsL.toArray X₁ hg hsize hdg hW (X₁.named hnamed) (hpre vm₁ X₁.warmed)
  exact ⟨v, vm₁, B, X₁.warmed, X', hpost, fun target h => hstep₁ _ fun acts => by rw [doInvoke_state]; exact hsteps.trans h⟩
theorem vx_runSW {y : MethodName} {bytes cc : ByteArray} {maxL nL mc ms n index : Nat} {ret : Option FieldType} {hh : List (Nat × Nat × Nat × Nat)} {ws : List Cond} {rm : Room} {Pc : Array Value → State → Prop} {Qc : Array Value → State → Outcome → State → Prop} {free : Addr → Prop} {Ts : List Cond} {own : String} {As rest : List Value} {g : JFrame}
    (S : CallFix p m c cc nL s args Ts own) (hM : Met l y ws rm Pc Qc mc ms free) (cw : vx_CSW R s args own index y bytes maxL ret hh ws rm mc ms n) (hp : PreS s H Pc As)
    (hg : g.method = m) (hn : As.length = n) (hsize : g.locals.size = nL) (hstack : g.stack = As.reverse ++ rest) (hW : 2 * g.monitorRoom + (rest.map fun v => v.category).sum ≤ 8) (hdg : decode cc g.pc = .ok (.invokestatic index, 3)) (hf : cells + mc ≤ R.cells ∧ slots + ms ≤ R.slots) :
    va_Run p l e R s m args below meth c H locs cells slots mc ms g rest (Qc As.toArray) (free) := by
  obtain ⟨⟨hrc, hrs, hfr, hlo, hws, hcw⟩, hcode, hini, hy, hlen, hl, hstt⟩ := cw
  have hK : Back l R p e below s args y 3 8 (PreOf R mc ms Pc) (PostOf Qc mc ms free) := va_backW (hh := hh) (bytes := bytes) (maxL := maxL) (ret := ret) hM hp.1 hrc hrs hfr hlo hws hcw (fun a' U hW => word_at hW (Or.inl (by first | rfl | simp [Cond.onTables, Cond.keeps, Cond.steady])) hini)
  obtain ⟨hx, hb, hml, ho, -⟩ := S
  intro T hT X
  obtain ⟨v, vm₁, ⟨U', l2, c2, s2⟩, hW₁, X', ⟨g', mk, t, L, e1, e2, hq, h1, hL, h2, h3⟩, st⟩ := vx_callSW X hx (hh := hh) (bytes := bytes) (maxL := maxL) (ret := ret) ho hl hstt hini hcode hy hK hg (hsize.trans hml.symm) (argsL := As) (rest := rest) (fun sig h => hn.trans (hlen sig h)) hstack hW (by rw [hb]; exact hdg)
    (fun vm₁ hW₁ => ⟨hf.1, hf.2, hp.2 (T.setVm vm₁) hT hW₁⟩)
  dsimp only [Pt.U, Pt.locs, Pt.cells, Pt.slots] at X' e1 e2 h1 h2 h3 st
  subst h1; subst h2; subst h3
  exact ⟨v, (T.setVm vm₁).calling g' mk As.toArray, t, U', L, hT, X', hL, e1, e2, hq, st⟩
/-- not caught here, past rows that name other classes: it goes on to the caller -/
theorem vx_outP {p : Program} {l : Launch} {e : Env} {R : Room} {s : State} {m : MethodId} {args : Array Value} {below : List Frame} {meth : Method} {c : Code} {H : Heap} {locs : List Loc} {cells slots : Nat} {free : Addr → Prop} {ls : Array Slot} {rest : List Value} {Qc : Array Value → State → Outcome → State → Prop} {XC : String → State → State → Prop}
    {pc : Nat} {own E : String} {ce : Cell} {q : Addr} {mc ms : Nat} (hown : s.vm.findClass own = some m.cls) (hlocks : meth.locks = false)
    (hpass : ∀ z ∈ c.exceptionTable.toList, covers z pc = false ∨ (z.catchType ≠ 0 ∧ ∃ nm : String, (Cond.classLink own z.catchType nm).before args s = true ∧ va_Nc E nm s)) (hcell : H[q]? = some ce) (hv : ce.vm = .none) (hcl : s.vm.findClass E = some ce.cls)
    (hx : ∀ t : State, t.heap = H → s.vm.Alike t.vm → XC E s t) (hf : ∀ z ∈ locs, free z.base) (hc : cells ≤ mc) (hs : slots ≤ ms) :
    vx_W p l e R s m args below meth c H locs cells slots (vx_MQ below Qc XC args s mc ms free) (F0 m pc ls rest) q := by
  intro T hT X
  have hpl : e.platform.magicAccessors = ({} : Platform).magicAccessors := by rw [X.admits.platform]
  obtain ⟨vm', hW', X', st⟩ := X.outThrough hlocks q (g := F0 m pc ls rest) rfl rfl rfl (cell := ce) (by rw [hT]; exact hcell) (by rw [hv]; rfl)
    (by obtain ⟨k9, h9, -⟩ := Vm.findClass_spec hcl; exact ⟨k9, h9⟩) (fun z hz => by
      rcases hpass z hz with h | ⟨hz0, nm, hl1, hn1⟩
      · exact Or.inl h
      · obtain ⟨c6, hc6, hcl6⟩ := Cond.classLink_spec hown hl1 e.platform hpl
        obtain ⟨a8, b8, h1, h2, h3⟩ := hn1
        cases Option.some.inj (h1.symm.trans hcl)
        cases Option.some.inj (h2.symm.trans hc6)
        exact Or.inr ⟨hz0, _, hcl6, h3⟩)
  obtain ⟨g₀, hfr⟩ := X'.frames_eq
  have hcell9 : ((T.setVm vm').setFrames (.throwing q :: below)).heap[q]? = some ce := by
    show T.heap[q]? = some ce
    rw [hT]; exact hcell
  have hend : Ended ((T.setVm vm').setFrames (.throwing q :: below)) below (.threw q) := State.frames_setFrames _ (State.cur_lt_of_frames hfr)
  refine ⟨(T.setVm vm').setFrames (.throwing q :: below), ?_, .threw q, X'.here.running, hend, Or.inr ⟨q, rfl, E, ce, locs, hx _ hT (X'.ends _).1.alike, hcell9, hv, hcl, (X'.ends _).1, (X'.ends _).2.mono hc hs, hf⟩⟩
  rw [X.pushThrowing_eq]
  exact st
/-- a thing of a world lies in the heap -/
theorem vx_lt {D : va_G} {cl : List vw_C} {ws : va_W} {H1 : Heap} (h : va_P D cl ws H1) {k : Nat} {q : Nat × va_E} (hk : ws[k]? = some q) : q.1 < H1.size := (h k q hk).lt
end VXS
/-! ===== END ===== -/
/-! ===== BEGIN methods with a table of their own: called by a name, returning or throwing ===== -/
section VXH
/-! vx_backW, vx_callVX, vx_callSX, vx_callVW, vx_runVW, vx_runVX, vx_runSX, vx_ofWH follow the same proofs as their sisters above ; vx_outP calls Shelf42/NT130.lean (outThrough). -/
section
variable {l : Launch} {R : Room} {p : Program} {e : Env} {below : List Frame} {s : State} {sargs : Array Value} {y : MethodName} {len W9 : Nat}
theorem vx_backW {ws : List Cond} {rm : Room} {Pc : Array Value → State → Prop} {Qc : Array Value → State → Outcome → State → Prop} {XC : String → State → State → Prop} {mc ms : Nat} {free : Addr → Prop} {bytes : ByteArray} {maxL : Nat} {ret : Option FieldType} {hh : List (Nat × Nat × Nat × Nat)}
    (hM : vx_Met l y ws rm Pc Qc XC mc ms free) (hblind : FrameBlind Pc) (hrc : rm.cells = mc) (hrs : rm.slots = ms)
    (hframes : rm.frames + 1 ≤ R.frames) (hlocals : W9 + (maxL + 11) + rm.locals ≤ R.locals)
    (hws : ∀ w ∈ ws, ∀ a' U, s.WarmedH U.vm → w.before a' U = true) (hcode : Cond.codeWith y bytes maxL ret hh ∈ ws) (hinit : ∀ a' U, s.WarmedH U.vm → (Cond.initialized y.cls).before a' U = true) :
    vx_Back l R p e below s sargs y len W9 (PreOf R mc ms Pc) (PostOf Qc mc ms free) (vx_Post XC mc ms free) := by
  intro m meth c A g ig mk a X hg hsize hdg hW hn hp
  have h1 : (headSpec ws rm).pre.before a A.U = true := atoms_intro fun w hw => hws w hw _ _ X.warmed
  have h2 : (Cond.codeWith y bytes maxL ret hh).before a A.U = true := hws _ hcode _ _ X.warmed
  have h3 : (Cond.initialized y.cls).before a A.U = true := hinit _ _ X.warmed
  have h4 : A.cells + (headSpec ws rm).room.cells ≤ R.cells := by rw [show (headSpec ws rm).room.cells = mc from hrc]; exact hp.1
  have h5 : A.slots + (headSpec ws rm).room.slots ≤ R.slots := by rw [show (headSpec ws rm).room.slots = ms from hrs]; exact hp.2.1
  have hPc : Pc a (A.U.calling g mk a) := hblind _ _ _ _ hp.2.2
  obtain ⟨U, Ls, c0, s0⟩ := A
  dsimp only [Pt.U, Pt.locs, Pt.cells, Pt.slots] at h1 h2 h3 h4 h5 X hn hPc ⊢
  obtain ⟨m9, methY, cY, hn9, hmY, hcY, -, hlY, -⟩ := Cond.codeWith_spec h2
  cases Option.some.inj (hn9.symm.trans hn)
  obtain ⟨kY, hkY, -⟩ := className_of_methodNamed hn
  have hinitY : kY.init = .initialized := Cond.initialized_spec (findClass_of_methodNamed hn) hkY h3
  have h : At U g.method c below := by rw [hg]; exact X.here
  have hlocals9 : W9 + (maxL + 11) + (headSpec ws rm).room.locals ≤ R.locals := hlocals
  have happ : (headSpec ws rm).appliesLoose y e.platform (U.calling g mk a) = true :=
    Spec.appliesLoose_calling (g := g) h hdg hn hkY hinitY
      (X.room_calling (g := g) (R' := (headSpec ws rm).room) hsize hmY hcY hframes (by rw [hlY]; omega) h4 h5) h1
  obtain ⟨mid, hmid⟩ := h.above
  have hfr : (U.setTop g).frames = (.java g :: mid) ++ below := by rw [State.frames_setTop' g h.top, hmid]; rfl
  obtain ⟨o, s₂, hsteps, -, hend, hq⟩ := Steps.callFree hM p X.admits X.cas X.clock (acts := []) hfr happ hPc trivial
  have hq' : vx_Q Qc XC mc ms free a (U.calling g mk a) o s₂ := hq
  rw [State.frames_setTop' g h.top] at hend
  obtain ⟨g₀, hg0⟩ := Option.isSome_iff_exists.mp h.top
  obtain ⟨r, hr⟩ := State.topJava?_eq_some.mp hg0
  have hr' : (({ U with heap := s₂.heap, slotsUsed := s₂.slotsUsed } : State).setVm s₂.vm).frames = .java g₀ :: r := hr
  rcases hq' with ⟨hqc, L, hfe, hL⟩ | ⟨q, rfl, E, ce, L, hx, hce, hcv, hcl, hW₂, hsm, hL⟩
  · obtain ⟨⟨v, rfl⟩, hW₂, e2, q2, q3, q4, q5, q6⟩ := id hfe
    have e3 : s₂ = ({ (U.calling g mk a).setFrames s₂.frames with heap := s₂.heap, slotsUsed := s₂.slotsUsed } : State).setVm s₂.vm := by
      have : s₂ = ({ s₂ with vm := (U.calling g mk a).vm } : State).setVm s₂.vm := rfl
      rw [e2] at this
      exact this
    obtain ⟨c₂, i₂, len₂, hc₂, hd₂, hf₂⟩ := hend
    have hW' : U.WarmedH s₂.vm := hW₂
    have hcc : c₂ = c := by
      have h1 : s₂.code? g.method = U.code? g.method := by
        rw [State.code?_eq, State.code?_eq, hW'.alike.method?]
      exact Option.some.inj (hc₂.symm.trans (h1.trans h.code))
    subst hcc
    have hlen : len₂ = len := by rw [hdg] at hd₂; cases hd₂; rfl
    subst hlen
    have hs₂ : s₂ = (({ U with heap := s₂.heap, slotsUsed := s₂.slotsUsed } : State).setVm s₂.vm).setTop { g with pc := g.pc + len₂, stack := v.toList ++ g.stack } := by
      refine e3.trans ?_
      rw [hf₂, State.calling_eq h.top, State.setFrames_setFrames, State.setTop_of_frames _ hr', hr]
      rfl
    have hsame : U.sameButNew ({ U with heap := s₂.heap, slotsUsed := s₂.slotsUsed } : State) L mc ms := by
      refine ⟨?_, q2, q3, q4, q5, q6⟩
      obtain ⟨t, ht, -⟩ := State.frames_cons hr
      show ({ U with heap := s₂.heap, slotsUsed := s₂.slotsUsed } : State) = { U.setFrames U.frames with heap := s₂.heap, slotsUsed := s₂.slotsUsed }
      rw [State.setFrames_self ht]
    subst hg
    refine Or.inl ⟨v, ⟨(({ U with heap := s₂.heap, slotsUsed := s₂.slotsUsed } : State).setVm s₂.vm), Ls ++ L, c0 + mc, s0 + ms⟩,
      ⟨X.admits, X.cas, X.clock, X.frames, X.room, X.hears, X.method, X.code, (X.here.setHeapUsed s₂.heap s₂.slotsUsed).setVm hW'.alike, X.tail, State.WarmedH.trans X.warmed hW', X.limits, X.bytes, X.same.trans (hsame.setVm s.vm)⟩,
      ⟨g, mk, s₂, L, rfl, rfl, hqc, rfl, hL, rfl, rfl⟩, ?_⟩
    show Steps p.tables e below _ ((({ U with heap := s₂.heap, slotsUsed := s₂.slotsUsed } : State).setVm s₂.vm).setTop { g with pc := g.pc + len₂, stack := v.toList ++ g.stack })
    rw [← hs₂]
    exact hsteps
  · obtain ⟨e2, q2, q3, q4, q5, q6⟩ := id hsm
    have e3 : s₂ = ({ (U.calling g mk a).setFrames s₂.frames with heap := s₂.heap, slotsUsed := s₂.slotsUsed } : State).setVm s₂.vm := by
      have : s₂ = ({ s₂ with vm := (U.calling g mk a).vm } : State).setVm s₂.vm := rfl
      rw [e2] at this
      exact this
    have hf₂ : s₂.frames = .throwing q :: .java g :: U.frames.tail := hend
    have hW' : U.WarmedH s₂.vm := hW₂
    have hs₂ : s₂ = ((({ U with heap := s₂.heap, slotsUsed := s₂.slotsUsed } : State).setVm s₂.vm).setTop g).pushFrame (.throwing q) := by
      refine e3.trans ?_
      rw [hf₂, State.calling_eq h.top, State.setFrames_setFrames, State.pushFrame, State.frames_setTop _ hr', State.setTop_of_frames _ hr', State.setFrames_setFrames, hr]
      rfl
    have hsame : U.sameButNew ({ U with heap := s₂.heap, slotsUsed := s₂.slotsUsed } : State) L mc ms := by
      refine ⟨?_, q2, q3, q4, q5, q6⟩
      obtain ⟨t, ht, -⟩ := State.frames_cons hr
      show ({ U with heap := s₂.heap, slotsUsed := s₂.slotsUsed } : State) = { U.setFrames U.frames with heap := s₂.heap, slotsUsed := s₂.slotsUsed }
      rw [State.setFrames_self ht]
    subst hg
    refine Or.inr ⟨q, ⟨(({ U with heap := s₂.heap, slotsUsed := s₂.slotsUsed } : State).setVm s₂.vm), Ls ++ L, c0 + mc, s0 + ms⟩,
      ⟨X.admits, X.cas, X.clock, X.frames, X.room, X.hears, X.method, X.code, (X.here.setHeapUsed s₂.heap s₂.slotsUsed).setVm hW'.alike, X.tail, State.WarmedH.trans X.warmed hW', X.limits, X.bytes, X.same.trans (hsame.setVm s.vm)⟩,
      ⟨g, mk, s₂, L, E, ce, rfl, rfl, hx, hce, hcv, hcl, rfl, hL, rfl, rfl⟩, ?_⟩
    show Steps p.tables e below _ (((({ U with heap := s₂.heap, slotsUsed := s₂.slotsUsed } : State).setVm s₂.vm).setTop g).pushFrame (.throwing q))
    rw [← hs₂]
    exact hsteps
end
variable {p : Program} {l : Launch} {e : Env} {R : Room} {s : State} {m : MethodId} {args : Array Value} {below : List Frame} {meth : Method} {c : Code} {T : State} {H : Heap} {locs : List Loc} {cells slots : Nat}
theorem vx_callVX (X : Stand p l e R s m args below meth c T locs cells slots) (hexec : p.tables.exec = Jvm.exec) {own C : String} {index : Nat} {y : MethodName} {bytes : ByteArray} {maxL : Nat} {ret : Option FieldType} {hh : List (Nat × Nat × Nat × Nat)}
    (hown : s.vm.findClass own = some m.cls) (hlink : (Cond.methodLink own index y).before args s = true) (hinst : (Cond.instanceMethod y).before args s = true) (hsel : (Cond.selects C y y).before args s = true)
    (hcode : (Cond.codeWith y bytes maxL ret hh).before args s = true) (hy : y.cls ≠ "java/lang/invoke/MethodHandle" ∧ y.cls ≠ "java/lang/invoke/VarHandle")
    {W9 : Nat} {Pre : Pt → Array Value → Prop} {Post : Pt → Array Value → Option Value → Pt → Prop} {PostX : Pt → Array Value → Addr → Pt → Prop} (hK : vx_Back l R p e below s args y 3 W9 Pre Post PostX)
    {b : Addr} {cellB : Cell} (hcell : T.heap[b]? = some cellB) (hobj : cellB.vm.isStatics = false) (hcls : s.vm.findClass C = some cellB.cls)
    {g : JFrame} (hg : g.method = m) (hsize : g.locals.size = c.maxLocals) {argsL rest : List Value} (hlen : ∀ sig, parseMethodDescriptor y.desc = some sig → argsL.length = sig.parameters.length)
    (hstack : g.stack = argsL.reverse ++ .ref b :: rest) (hW : 2 * g.monitorRoom + (rest.map fun v => v.category).sum ≤ W9) (hdg : decode c.code g.pc = .ok (.invokevirtual index, 3))
    (hpre : ∀ vm₁, s.WarmedH vm₁ → Pre ⟨T.setVm vm₁, locs, cells, slots⟩ (Value.ref b :: argsL).toArray) :
    (∃ (v : Option Value) (vm₁ : Vm) (B : Pt), s.WarmedH vm₁ ∧ Stand p l e R s m args below meth c B.U B.locs B.cells B.slots ∧ Post ⟨T.setVm vm₁, locs, cells, slots⟩ (Value.ref b :: argsL).toArray v B ∧
      ∀ target, Steps p.tables e below (B.U.setTop { g with pc := g.pc + 3, stack := v.toList ++ rest }) target → Steps p.tables e below (T.setTop g) target) ∨
    (∃ (q : Addr) (vm₁ : Vm) (B : Pt), s.WarmedH vm₁ ∧ Stand p l e R s m args below meth c B.U B.locs B.cells B.slots ∧ PostX ⟨T.setVm vm₁, locs, cells, slots⟩ (Value.ref b :: argsL).toArray q B ∧
      Steps p.tables e below (T.setTop g) ((B.U.setTop { g with stack := rest }).pushFrame (.throwing q))) := by
  obtain ⟨mk, methM, hnamed, hmethM, hstM, habM⟩ := Cond.instanceMethod_spec hinst
  obtain ⟨m8, methM', cM, hn8, hmethM', -, -, -, -, -, -, hsigM⟩ := Cond.codeWith_spec hcode
  cases Option.some.inj (hn8.symm.trans hnamed)
  cases hmethM.symm.trans hmethM'
  obtain ⟨c2, r2, m2, q1, q2, q3, q4, kP, hkP, hkPi⟩ := Cond.selects_spec hsel
  cases hcls.symm.trans q1
  cases (State.methodFound?_of_named hnamed hy).symm.trans q2
  cases hnamed.symm.trans q3
  have hselP : selectMethod e.platform s.vm cellB.cls mk = .method mk := by rw [Launch.admits_selectMethod X.admits]; exact q4
  obtain ⟨vm₁, X₁, hstep₁⟩ := X.invokevirtual hexec hown hlink hnamed hmethM hstM hkP hkPi hy (a := b) (cell := cellB) hcell
    (fun z h => by rw [h] at hobj; cases hobj) hselP hmethM habM hkP hkPi (g := g) hg (argsL := argsL) (rest := rest) (hlen _ hsigM) hstack hdg
  rcases hK m meth c ⟨T.setVm vm₁, locs, cells, slots⟩ { g with stack := rest } (.invokevirtual index) mk (Value.ref b :: argsL).toArray X₁ hg hsize hdg hW (X₁.named hnamed) (hpre vm₁ X₁.warmed) with ⟨v, B, X', hpost, hsteps⟩ | ⟨q, B, X', hpost, hsteps⟩
  · exact Or.inl ⟨v, vm₁, B, X₁.warmed, X', hpost, fun target h => hstep₁ _ fun acts => by rw [doInvoke_state]; exact hsteps.trans h⟩
  · exact Or.inr ⟨q, vm₁, B, X₁.warmed, X', hpost, hstep₁ _ fun acts => by rw [doInvoke_state]; exact hsteps⟩
theorem vx_callSX (X : Stand p l e R s m args below meth c T locs cells slots) (hexec : p.tables.exec = Jvm.exec) {own : String} {index : Nat} {y : MethodName} {bytes : ByteArray} {maxL : Nat} {ret : Option FieldType} {hh : List (Nat × Nat × Nat × Nat)}
    (hown : s.vm.findClass own = some m.cls) (hlink : (Cond.methodLink own index y).before args s = true) (hstat : (Cond.static y).before args s = true) (hinit : (Cond.initialized y.cls).before args s = true)
    (hcode : (Cond.codeWith y bytes maxL ret hh).before args s = true) (hy : y.cls ≠ "java/lang/invoke/MethodHandle" ∧ y.cls ≠ "java/lang/invoke/VarHandle")
    {W9 : Nat} {Pre : Pt → Array Value → Prop} {Post : Pt → Array Value → Option Value → Pt → Prop} {PostX : Pt → Array Value → Addr → Pt → Prop} (hK : vx_Back l R p e below s args y 3 W9 Pre Post PostX)
    {g : JFrame} (hg : g.method = m) (hsize : g.locals.size = c.maxLocals) {argsL rest : List Value} (hlen : ∀ sig, parseMethodDescriptor y.desc = some sig → argsL.length = sig.parameters.length)
    (hstack : g.stack = argsL.reverse ++ rest) (hW : 2 * g.monitorRoom + (rest.map fun v => v.category).sum ≤ W9) (hdg : decode c.code g.pc = .ok (.invokestatic index, 3))
    (hpre : ∀ vm₁, s.WarmedH vm₁ → Pre ⟨T.setVm vm₁, locs, cells, slots⟩ argsL.toArray) :
    (∃ (v : Option Value) (vm₁ : Vm) (B : Pt), s.WarmedH vm₁ ∧ Stand p l e R s m args below meth c B.U B.locs B.cells B.slots ∧ Post ⟨T.setVm vm₁, locs, cells, slots⟩ argsL.toArray v B ∧
      ∀ target, Steps p.tables e below (B.U.setTop { g with pc := g.pc + 3, stack := v.toList ++ rest }) target → Steps p.tables e below (T.setTop g) target) ∨
    (∃ (q : Addr) (vm₁ : Vm) (B : Pt), s.WarmedH vm₁ ∧ Stand p l e R s m args below meth c B.U B.locs B.cells B.slots ∧ PostX ⟨T.setVm vm₁, locs, cells, slots⟩ argsL.toArray q B ∧
      Steps p.tables e below (T.setTop g) ((B.U.setTop { g with stack := rest }).pushFrame (.throwing q))) := by
  obtain ⟨mk, methM, cM, hnamed, hmethM, -, -, -, -, -, -, hsigM⟩ := Cond.codeWith_spec hcode
  have hstatic : methM.isStatic = true := Cond.static_spec hnamed hmethM hstat
  obtain ⟨kP, hkP, -⟩ := className_of_methodNamed hnamed
  have hinitP : kP.init = .initialized := Cond.initialized_spec (findClass_of_methodNamed hnamed) hkP hinit
  obtain ⟨vm₁, X₁, hstep₁⟩ := X.invokestatic hexec hown hlink hnamed hmethM hstatic hkP hinitP hy (g := g) hg (argsL := argsL) (rest := rest) (hlen _ hsigM) hstack hdg
  rcases hK m meth c ⟨T.setVm vm₁, locs, cells, slots⟩ { g with stack := rest } (.invokestatic index) mk argsL.toArray X₁ hg hsize hdg hW (X₁.named hnamed) (hpre vm₁ X₁.warmed) with ⟨v, B, X', hpost, hsteps⟩ | ⟨q, B, X', hpost, hsteps⟩
  · exact Or.inl ⟨v, vm₁, B, X₁.warmed, X', hpost, fun target h => hstep₁ _ fun acts => by rw [doInvoke_state]; exact hsteps.trans h⟩
  · exact Or.inr ⟨q, vm₁, B, X₁.warmed, X', hpost, hstep₁ _ fun acts => by rw [doInvoke_state]; exact hsteps⟩
theorem vx_callVW (X : Stand p l e R s m args below meth c T locs cells slots) (hexec : p.tables.exec = Jvm.exec) {own C : String} {index : Nat} {y : MethodName} {bytes : ByteArray} {maxL : Nat} {ret : Option FieldType} {hh : List (Nat × Nat × Nat × Nat)}
    (hown : s.vm.findClass own = some m.cls) (hlink : (Cond.methodLink own index y).before args s = true) (hinst : (Cond.instanceMethod y).before args s = true) (hsel : (Cond.selects C y y).before args s = true)
    (hcode : (Cond.codeWith y bytes maxL ret hh).before args s = true) (hy : y.cls ≠ "java/lang/invoke/MethodHandle" ∧ y.cls ≠ "java/lang/invoke/VarHandle")
    {W9 : Nat} {Pre : Pt → Array Value → Prop} {Post : Pt → Array Value → Option Value → Pt → Prop} (hK : Back l R p e below s args y 3 W9 Pre Post)
    {b : Addr} {cellB : Cell} (hcell : T.heap[b]? = some cellB) (hobj : cellB.vm.isStatics = false) (hcls : s.vm.findClass C = some cellB.cls)
    {g : JFrame} (hg : g.method = m) (hsize : g.locals.size = c.maxLocals) {argsL rest : List Value} (hlen : ∀ sig, parseMethodDescriptor y.desc = some sig → argsL.length = sig.parameters.length)
    (hstack : g.stack = argsL.reverse ++ .ref b :: rest) (hW : 2 * g.monitorRoom + (rest.map fun v => v.category).sum ≤ W9) (hdg : decode c.code g.pc = .ok (.invokevirtual index, 3))
    (hpre : ∀ vm₁, s.WarmedH vm₁ → Pre ⟨T.setVm vm₁, locs, cells, slots⟩ (Value.ref b :: argsL).toArray) :
    ∃ (v : Option Value) (vm₁ : Vm) (B : Pt), s.WarmedH vm₁ ∧ Stand p l e R s m args below meth c B.U B.locs B.cells B.slots ∧ Post ⟨T.setVm vm₁, locs, cells, slots⟩ (Value.ref b :: argsL).toArray v B ∧
      ∀ target, Steps p.tables e below (B.U.setTop { g with pc := g.pc + 3, stack := v.toList ++ rest }) target → Steps p.tables e below (T.setTop g) target := by
  obtain ⟨mk, methM, hnamed, hmethM, hstM, habM⟩ := Cond.instanceMethod_spec hinst
  obtain ⟨m8, methM', cM, hn8, hmethM', -, -, -, -, -, -, hsigM⟩ := Cond.codeWith_spec hcode
  cases Option.some.inj (hn8.symm.trans hnamed)
  cases hmethM.symm.trans hmethM'
  obtain ⟨c2, r2, m2, q1, q2, q3, q4, kP, hkP, hkPi⟩ := Cond.selects_spec hsel
  cases hcls.symm.trans q1
  cases (State.methodFound?_of_named hnamed hy).symm.trans q2
  cases hnamed.symm.trans q3
  have hselP : selectMethod e.platform s.vm cellB.cls mk = .method mk := by rw [Launch.admits_selectMethod X.admits]; exact q4
  obtain ⟨vm₁, X₁, hstep₁⟩ := X.invokevirtual hexec hown hlink hnamed hmethM hstM hkP hkPi hy (a := b) (cell := cellB) hcell
    (fun z h => by rw [h] at hobj; cases hobj) hselP hmethM habM hkP hkPi (g := g) hg (argsL := argsL) (rest := rest) (hlen _ hsigM) hstack hdg
  obtain ⟨v, B, X', hpost, hsteps⟩ := hK m meth c ⟨T.setVm vm₁, locs, cells, slots⟩ { g with stack := rest } (.invokevirtual index) mk (Value.ref b :: argsL).toArray X₁ hg hsize hdg hW (X₁.named hnamed) (hpre vm₁ X₁.warmed)
  exact ⟨v, vm₁, B, X₁.warmed, X', hpost, fun target h => hstep₁ _ fun acts => by rw [doInvoke_state]; exact hsteps.trans h⟩
abbrev vx_CVW (R : Room) (s : State) (args : Array Value) (own C : String) (index : Nat) (y : MethodName) (bytes : ByteArray) (maxL : Nat) (ret : Option FieldType) (hh : List (Nat × Nat × Nat × Nat)) (ws : List Cond) (rm : Room) (mc ms n : Nat) : Prop :=
  (rm.cells = mc ∧ rm.slots = ms ∧ rm.frames + 1 ≤ R.frames ∧ 8 + (maxL + 11) + rm.locals ≤ R.locals ∧ (∀ w ∈ ws, ∀ (a' : Array Value) (U : State), s.WarmedH U.vm → w.before a' U = true) ∧ Cond.codeWith y bytes maxL ret hh ∈ ws) ∧
  (Cond.codeWith y bytes maxL ret hh).before args s = true ∧ (Cond.initialized y.cls).before args s = true ∧ (y.cls ≠ "java/lang/invoke/MethodHandle" ∧ y.cls ≠ "java/lang/invoke/VarHandle") ∧
  (∀ sig, parseMethodDescriptor y.desc = some sig → n = sig.parameters.length) ∧ (Cond.methodLink own index y).before args s = true ∧ (Cond.instanceMethod y).before args s = true ∧ (Cond.selects C y y).before args s = true
theorem vx_cwVW {own C : String} {index maxL mc ms : Nat} {y : MethodName} {bytes : ByteArray} {ret : Option FieldType} {hh : List (Nat × Nat × Nat × Nat)} {Ts ws ws' : List Cond} {rm : Room} (n : Nat) (ht : ∀ w ∈ Ts, w.before args s = true) (hT : GoodIn Ts (wsV own index C y ws)) (hw : ws = Cond.codeWith y bytes maxL ret hh :: ws') (hrc : rm.cells = mc) (hrs : rm.slots = ms)
    (hd : y.cls = C ∧ y.cls ≠ "java/lang/invoke/MethodHandle" ∧ y.cls ≠ "java/lang/invoke/VarHandle" ∧ (parseMethodDescriptor y.desc).map (fun d => d.parameters.length) = some n) (hR : rm.frames + 1 ≤ R.frames ∧ 8 + (maxL + 11) + rm.locals ≤ R.locals) :
    vx_CVW R s args own C index y bytes maxL ret hh ws rm mc ms n := by
  obtain ⟨hC, hd⟩ := hd
  subst hC
  have ok : ∀ w ∈ wsV own index y.cls y ws, w.before args s = true := fun w h => ht w (hT w h).1
  have hG : GoodIn Ts ws := fun w h => hT w (by unfold wsV; exact List.mem_append_right _ h)
  have hc : Cond.codeWith y bytes maxL ret hh ∈ ws := by rw [hw]; exact List.mem_cons_self
  refine ⟨⟨hrc, hrs, hR.1, hR.2, pay_in ht hG, hc⟩, ht _ (hG _ hc).1, ok _ (by simp [wsV]), ⟨hd.1, hd.2.1⟩, fun sig h => ?_, ok _ (by simp [wsV]), ok _ (by simp [wsV]), ok _ (by simp [wsV])⟩
  have h2 := hd.2.2
  rw [h] at h2
  exact (Option.some.inj h2).symm
theorem vx_runVW {y : MethodName} {bytes cc : ByteArray} {maxL nL mc ms n index : Nat} {ret : Option FieldType} {hh : List (Nat × Nat × Nat × Nat)} {ws : List Cond} {rm : Room} {Pc : Array Value → State → Prop} {Qc : Array Value → State → Outcome → State → Prop} {free : Addr → Prop} {Ts : List Cond} {own C : String} {b : Addr} {As rest : List Value} {g : JFrame}
    (S : CallFix p m c cc nL s args Ts own) (hM : Met l y ws rm Pc Qc mc ms free) (cw : vx_CVW R s args own C index y bytes maxL ret hh ws rm mc ms n) (hp : PreV s H C b Pc As)
    (hg : g.method = m) (hn : As.length = n) (hsize : g.locals.size = nL) (hstack : g.stack = As.reverse ++ .ref b :: rest) (hW : 2 * g.monitorRoom + (rest.map fun v => v.category).sum ≤ 8) (hdg : decode cc g.pc = .ok (.invokevirtual index, 3)) (hf : cells + mc ≤ R.cells ∧ slots + ms ≤ R.slots) :
    va_Run p l e R s m args below meth c H locs cells slots mc ms g rest (Qc (Value.ref b :: As).toArray) free := by
  obtain ⟨⟨hrc, hrs, hfr, hlo, hws, hcw⟩, hcode, hini, hy, hlen, hl, hin, hse⟩ := cw
  have hK : Back l R p e below s args y 3 8 (PreOf R mc ms Pc) (PostOf Qc mc ms free) := va_backW (hh := hh) (bytes := bytes) (maxL := maxL) (ret := ret) hM hp.1 hrc hrs hfr hlo hws hcw (fun a' U hW => word_at hW (Or.inl (by first | rfl | simp [Cond.onTables, Cond.keeps, Cond.steady])) hini)
  obtain ⟨hx, hb, hml, ho, -⟩ := S
  obtain ⟨-, ⟨cellB, hcB, hoB, hclB⟩, hPc⟩ := hp
  intro T hT X
  obtain ⟨v, vm₁, ⟨U', l2, c2, s2⟩, hW₁, X', ⟨g', mk, t, L, e1, e2, hq, h1, hL, h2, h3⟩, st⟩ := vx_callVW X hx (C := C) (hh := hh) (bytes := bytes) (maxL := maxL) (ret := ret) ho hl hin hse hcode hy hK (by rw [hT]; exact hcB) hoB hclB hg (hsize.trans hml.symm) (argsL := As) (rest := rest) (fun sig h => hn.trans (hlen sig h)) hstack hW (by rw [hb]; exact hdg)
    (fun vm₁ hW₁ => ⟨hf.1, hf.2, hPc (T.setVm vm₁) hT hW₁⟩)
  dsimp only [Pt.U, Pt.locs, Pt.cells, Pt.slots] at X' e1 e2 h1 h2 h3 st
  subst h1; subst h2; subst h3
  exact ⟨v, (T.setVm vm₁).calling g' mk (Value.ref b :: As).toArray, t, U', L, hT, X', hL, e1, e2, hq, st⟩
section
variable {y : MethodName} {bytes cc : ByteArray} {maxL nL mc ms n index : Nat} {ret : Option FieldType} {ws : List Cond} {rm : Room} {Pc : Array Value → State → Prop} {Qc : Array Value → State → Outcome → State → Prop} {XC : String → State → State → Prop} {free : Addr → Prop} {Ts : List Cond} {own C : String} {b : Addr} {As rest : List Value} {g : JFrame}
theorem vx_runVX {hh : List (Nat × Nat × Nat × Nat)} (S : CallFix p m c cc nL s args Ts own) (hM : vx_Met l y ws rm Pc Qc XC mc ms free) (cw : vx_CVW R s args own C index y bytes maxL ret hh ws rm mc ms n) (hp : PreV s H C b Pc As)
    (hg : g.method = m) (hn : As.length = n) (hsize : g.locals.size = nL) (hstack : g.stack = As.reverse ++ .ref b :: rest) (hW : 2 * g.monitorRoom + (rest.map fun v => v.category).sum ≤ 8) (hdg : decode cc g.pc = .ok (.invokevirtual index, 3)) (hf : cells + mc ≤ R.cells ∧ slots + ms ≤ R.slots) :
    vx_Run p l e R s m args below meth c H locs cells slots mc ms g rest (Qc (Value.ref b :: As).toArray) XC free := by
  obtain ⟨⟨hrc, hrs, hfr, hlo, hws, hcw⟩, hcode, hini, hy, hlen, hl, hin, hse⟩ := cw
  have hK : vx_Back l R p e below s args y 3 8 (PreOf R mc ms Pc) (PostOf Qc mc ms free) (vx_Post XC mc ms free) := vx_backW (hh := hh) (bytes := bytes) (maxL := maxL) (ret := ret) hM hp.1 hrc hrs hfr hlo hws hcw (fun a' U hW => word_at hW (Or.inl (by first | rfl | simp [Cond.onTables, Cond.keeps, Cond.steady])) hini)
  obtain ⟨hx, hb, hml, ho, -⟩ := S
  obtain ⟨-, ⟨cellB, hcB, hoB, hclB⟩, hPc⟩ := hp
  intro T hT X
  rcases vx_callVX X hx (C := C) (hh := hh) (bytes := bytes) (maxL := maxL) (ret := ret) ho hl hin hse hcode hy hK (by rw [hT]; exact hcB) hoB hclB hg (hsize.trans hml.symm) (argsL := As) (rest := rest) (fun sig h => hn.trans (hlen sig h)) hstack hW (by rw [hb]; exact hdg)
    (fun vm₁ hW₁ => ⟨hf.1, hf.2, hPc (T.setVm vm₁) hT hW₁⟩) with ⟨v, vm₁, ⟨U', l2, c2, s2⟩, hW₁, X', ⟨g', mk, t, L, e1, e2, hq, h1, hL, h2, h3⟩, st⟩ | ⟨q, vm₁, ⟨U', l2, c2, s2⟩, hW₁, X', ⟨g', mk, t, L, E, ce, e1, e2, hq, hce, hcv, hcl, h1, hL, h2, h3⟩, st⟩
  · dsimp only [Pt.U, Pt.locs, Pt.cells, Pt.slots] at X' e1 e2 h1 h2 h3 st
    subst h1; subst h2; subst h3
    exact Or.inl ⟨v, (T.setVm vm₁).calling g' mk (Value.ref b :: As).toArray, t, U', L, hT, X', hL, e1, e2, hq, st⟩
  · dsimp only [Pt.U, Pt.locs, Pt.cells, Pt.slots] at X' e1 e2 h1 h2 h3 st hcl
    subst h1; subst h2; subst h3
    exact Or.inr ⟨q, (T.setVm vm₁).calling g' mk (Value.ref b :: As).toArray, t, U', L, E, ce, hT, X', hL, e1, e2, hq, hce, hcv, vx_cls hW₁ hcl, st⟩
theorem vx_runSX {hh : List (Nat × Nat × Nat × Nat)} (S : CallFix p m c cc nL s args Ts own) (hM : vx_Met l y ws rm Pc Qc XC mc ms free) (cw : vx_CSW R s args own index y bytes maxL ret hh ws rm mc ms n) (hp : PreS s H Pc As)
    (hg : g.method = m) (hn : As.length = n) (hsize : g.locals.size = nL) (hstack : g.stack = As.reverse ++ rest) (hW : 2 * g.monitorRoom + (rest.map fun v => v.category).sum ≤ 8) (hdg : decode cc g.pc = .ok (.invokestatic index, 3)) (hf : cells + mc ≤ R.cells ∧ slots + ms ≤ R.slots) :
    vx_Run p l e R s m args below meth c H locs cells slots mc ms g rest (Qc As.toArray) XC free := by
  obtain ⟨⟨hrc, hrs, hfr, hlo, hws, hcw⟩, hcode, hini, hy, hlen, hl, hstt⟩ := cw
  have hK : vx_Back l R p e below s args y 3 8 (PreOf R mc ms Pc) (PostOf Qc mc ms free) (vx_Post XC mc ms free) := vx_backW (hh := hh) (bytes := bytes) (maxL := maxL) (ret := ret) hM hp.1 hrc hrs hfr hlo hws hcw (fun a' U hW => word_at hW (Or.inl (by first | rfl | simp [Cond.onTables, Cond.keeps, Cond.steady])) hini)
  obtain ⟨hx, hb, hml, ho, -⟩ := S
  intro T hT X
  rcases vx_callSX X hx (hh := hh) (bytes := bytes) (maxL := maxL) (ret := ret) ho hl hstt hini hcode hy hK hg (hsize.trans hml.symm) (argsL := As) (rest := rest) (fun sig h => hn.trans (hlen sig h)) hstack hW (by rw [hb]; exact hdg)
    (fun vm₁ hW₁ => ⟨hf.1, hf.2, hp.2 (T.setVm vm₁) hT hW₁⟩) with ⟨v, vm₁, ⟨U', l2, c2, s2⟩, hW₁, X', ⟨g', mk, t, L, e1, e2, hq, h1, hL, h2, h3⟩, st⟩ | ⟨q, vm₁, ⟨U', l2, c2, s2⟩, hW₁, X', ⟨g', mk, t, L, E, ce, e1, e2, hq, hce, hcv, hcl, h1, hL, h2, h3⟩, st⟩
  · dsimp only [Pt.U, Pt.locs, Pt.cells, Pt.slots] at X' e1 e2 h1 h2 h3 st
    subst h1; subst h2; subst h3
    exact Or.inl ⟨v, (T.setVm vm₁).calling g' mk As.toArray, t, U', L, hT, X', hL, e1, e2, hq, st⟩
  · dsimp only [Pt.U, Pt.locs, Pt.cells, Pt.slots] at X' e1 e2 h1 h2 h3 st hcl
    subst h1; subst h2; subst h3
    exact Or.inr ⟨q, (T.setVm vm₁).calling g' mk As.toArray, t, U', L, E, ce, hT, X', hL, e1, e2, hq, hce, hcv, vx_cls hW₁ hcl, st⟩
end
end VXH
theorem vx_ofWH {l : Launch} {y : MethodName} {ws ws' : List Cond} {rm : Room} {Pc : Array Value → State → Prop} {Qc : Array Value → State → Outcome → State → Prop} {XC : String → State → State → Prop} {mc ms : Nat} {free : Addr → Prop} {cc : ByteArray} {maxL : Nat} {ret : Option FieldType} {hh : List (Nat × Nat × Nat × Nat)}
    (hy : plainName y.cls = true) (hw : ws = Cond.codeWith y cc maxL ret hh :: ws')
    (body : ∀ p e s m args below meth c s₁, BodyLoose p l y (headSpec ws rm) cc maxL ret e s m args below meth c s₁ → c.maxLocals = maxL → Pc args s →
      W p l e (headSpec ws rm).room s m args below meth c s.heap [] 0 0 (vx_MQ below Qc XC args s mc ms free) (entryFrame m args maxL)) : vx_Met l y ws rm Pc Qc XC mc ms free := by
  refine MetFree.of_bodyS (code := cc) (maxLocals := maxL) (ret := ret) hy ?_ ?_
  · intro args s m h hn
    obtain ⟨m9, meth, c, hn9, h1, h2, h3, h4, -, h5, h6, -⟩ := Cond.codeWith_spec (atoms_spec (ws := ws) h _ (by rw [hw]; exact List.mem_cons_self))
    cases hn.symm.trans hn9
    exact ⟨meth, c, h1, h2, h3, h4, h5, h6⟩
  · intro p e s m args below meth c s₁ B hml hP _
    have hh0 : s₁.heap = s.heap := by rw [B.state]; rfl
    obtain ⟨t, a1, o, b1, b2, b3⟩ := body p e s m args below meth c s₁ B hml hP s₁ hh0 (Stand.of_body B)
    exact ⟨t, o, a1, b1, b2, b3⟩
/-! ===== END ===== -/
end
section
/-! Names: the classes (their fields in the order of the rows), the methods (code, name, code word) -/
def T_LR : u_T := fun k => match k with
  | 0 => ("LandRegister", "byNumber", "[LLandRegister$Deed;", true)
  | 1 => ("LandRegister", "byFactDay", "[LLandRegister$Deed;", true)
  | 2 => ("LandRegister", "parcels", "[LLandRegister$Parcel;", true)
  | 3 => ("LandRegister", "filed", "I", false)
  | _ => ("LandRegister", "today", "I", false)
def e_LR : Nat → FieldType := fun k => match k with
  | 0 => .array (.object "LandRegister$Deed")
  | 1 => .array (.object "LandRegister$Deed")
  | 2 => .array (.object "LandRegister$Parcel")
  | 3 => .int
  | _ => .int
theorem nm_LR : ∀ a, a < 5 → ∀ b, b < 5 → a ≠ b → (T_LR a).2.1 ≠ (T_LR b).2.1 := by decide +kernel
theorem ty_LR : ∀ k, k < 5 → parseFieldDescriptor (T_LR k).2.2.1 = some (e_LR k) := by decide +kernel
def T_P : u_T := fun k => match k with
  | 0 => ("LandRegister$Parcel", "lives", "Z", false)
  | 1 => ("LandRegister$Parcel", "area", "J", false)
  | 2 => ("LandRegister$Parcel", "shares", "[J", true)
  | 3 => ("LandRegister$Parcel", "mortgages", "I", false)
  | 4 => ("LandRegister$Parcel", "creditors", "[I", true)
  | 5 => ("LandRegister$Parcel", "amounts", "[I", true)
  | 6 => ("LandRegister$Parcel", "cautions", "I", false)
  | 7 => ("LandRegister$Parcel", "firstOrigin", "I", false)
  | _ => ("LandRegister$Parcel", "secondOrigin", "I", false)
def e_P : Nat → FieldType := fun k => match k with
  | 0 => .boolean
  | 1 => .long
  | 2 => .array .long
  | 3 => .int
  | 4 => .array .int
  | 5 => .array .int
  | 6 => .int
  | 7 => .int
  | _ => .int
theorem nm_P : ∀ a, a < 9 → ∀ b, b < 9 → a ≠ b → (T_P a).2.1 ≠ (T_P b).2.1 := by decide +kernel
theorem ty_P : ∀ k, k < 9 → parseFieldDescriptor (T_P k).2.2.1 = some (e_P k) := by decide +kernel
def T_Fo : u_T := fun k => match k with
  | 0 => ("LandRegister$Deed", "number", "I", false)
  | 1 => ("LandRegister$Deed", "recordDay", "I", false)
  | 2 => ("LandRegister$Deed", "factDay", "I", false)
  | 3 => ("LandRegister$Deed", "outcome", "I", false)
  | 4 => ("LandRegister$Found", "area", "I", true)
  | _ => ("LandRegister$Found", "owner", "I", true)
def e_Fo : Nat → FieldType := fun k => match k with
  | 0 => .int
  | 1 => .int
  | 2 => .int
  | 3 => .int
  | 4 => .int
  | _ => .int
theorem nm_Fo : ∀ a, a < 6 → ∀ b, b < 6 → a ≠ b → (T_Fo a).2.1 ≠ (T_Fo b).2.1 := by decide +kernel
theorem ty_Fo : ∀ k, k < 6 → parseFieldDescriptor (T_Fo k).2.2.1 = some (e_Fo k) := by decide +kernel
def T_Se : u_T := fun k => match k with
  | 0 => ("LandRegister$Deed", "number", "I", false)
  | 1 => ("LandRegister$Deed", "recordDay", "I", false)
  | 2 => ("LandRegister$Deed", "factDay", "I", false)
  | 3 => ("LandRegister$Deed", "outcome", "I", false)
  | 4 => ("LandRegister$Sell", "parcel", "I", true)
  | 5 => ("LandRegister$Sell", "from", "I", true)
  | 6 => ("LandRegister$Sell", "to", "I", true)
  | _ => ("LandRegister$Sell", "fraction", "J", true)
def e_Se : Nat → FieldType := fun k => match k with
  | 0 => .int
  | 1 => .int
  | 2 => .int
  | 3 => .int
  | 4 => .int
  | 5 => .int
  | 6 => .int
  | _ => .long
theorem nm_Se : ∀ a, a < 8 → ∀ b, b < 8 → a ≠ b → (T_Se a).2.1 ≠ (T_Se b).2.1 := by decide +kernel
theorem ty_Se : ∀ k, k < 8 → parseFieldDescriptor (T_Se k).2.2.1 = some (e_Se k) := by decide +kernel
def T_Pl : u_T := fun k => match k with
  | 0 => ("LandRegister$Deed", "number", "I", false)
  | 1 => ("LandRegister$Deed", "recordDay", "I", false)
  | 2 => ("LandRegister$Deed", "factDay", "I", false)
  | 3 => ("LandRegister$Deed", "outcome", "I", false)
  | 4 => ("LandRegister$Pledge", "parcel", "I", true)
  | 5 => ("LandRegister$Pledge", "creditor", "I", true)
  | _ => ("LandRegister$Pledge", "amount", "I", true)
def e_Pl : Nat → FieldType := fun k => match k with
  | 0 => .int
  | 1 => .int
  | 2 => .int
  | 3 => .int
  | 4 => .int
  | 5 => .int
  | _ => .int
theorem nm_Pl : ∀ a, a < 7 → ∀ b, b < 7 → a ≠ b → (T_Pl a).2.1 ≠ (T_Pl b).2.1 := by decide +kernel
theorem ty_Pl : ∀ k, k < 7 → parseFieldDescriptor (T_Pl k).2.2.1 = some (e_Pl k) := by decide +kernel
def T_Re : u_T := fun k => match k with
  | 0 => ("LandRegister$Deed", "number", "I", false)
  | 1 => ("LandRegister$Deed", "recordDay", "I", false)
  | 2 => ("LandRegister$Deed", "factDay", "I", false)
  | 3 => ("LandRegister$Deed", "outcome", "I", false)
  | 4 => ("LandRegister$Rerank", "parcel", "I", true)
  | 5 => ("LandRegister$Rerank", "from", "I", true)
  | 6 => ("LandRegister$Rerank", "to", "I", true)
  | _ => ("LandRegister$Rerank", "consents", "I", true)
def e_Re : Nat → FieldType := fun k => match k with
  | 0 => .int
  | 1 => .int
  | 2 => .int
  | 3 => .int
  | 4 => .int
  | 5 => .int
  | 6 => .int
  | _ => .int
theorem nm_Re : ∀ a, a < 8 → ∀ b, b < 8 → a ≠ b → (T_Re a).2.1 ≠ (T_Re b).2.1 := by decide +kernel
theorem ty_Re : ∀ k, k < 8 → parseFieldDescriptor (T_Re k).2.2.1 = some (e_Re k) := by decide +kernel
def T_Rl : u_T := fun k => match k with
  | 0 => ("LandRegister$Deed", "number", "I", false)
  | 1 => ("LandRegister$Deed", "recordDay", "I", false)
  | 2 => ("LandRegister$Deed", "factDay", "I", false)
  | 3 => ("LandRegister$Deed", "outcome", "I", false)
  | 4 => ("LandRegister$Release", "parcel", "I", true)
  | _ => ("LandRegister$Release", "rank", "I", true)
def e_Rl : Nat → FieldType := fun k => match k with
  | 0 => .int
  | 1 => .int
  | 2 => .int
  | 3 => .int
  | 4 => .int
  | _ => .int
theorem nm_Rl : ∀ a, a < 6 → ∀ b, b < 6 → a ≠ b → (T_Rl a).2.1 ≠ (T_Rl b).2.1 := by decide +kernel
theorem ty_Rl : ∀ k, k < 6 → parseFieldDescriptor (T_Rl k).2.2.1 = some (e_Rl k) := by decide +kernel
def T_Ca : u_T := fun k => match k with
  | 0 => ("LandRegister$Deed", "number", "I", false)
  | 1 => ("LandRegister$Deed", "recordDay", "I", false)
  | 2 => ("LandRegister$Deed", "factDay", "I", false)
  | 3 => ("LandRegister$Deed", "outcome", "I", false)
  | 4 => ("LandRegister$Caution", "parcel", "I", true)
  | _ => ("LandRegister$Caution", "person", "I", true)
def e_Ca : Nat → FieldType := fun k => match k with
  | 0 => .int
  | 1 => .int
  | 2 => .int
  | 3 => .int
  | 4 => .int
  | _ => .int
theorem nm_Ca : ∀ a, a < 6 → ∀ b, b < 6 → a ≠ b → (T_Ca a).2.1 ≠ (T_Ca b).2.1 := by decide +kernel
theorem ty_Ca : ∀ k, k < 6 → parseFieldDescriptor (T_Ca k).2.2.1 = some (e_Ca k) := by decide +kernel
def T_Li : u_T := fun k => match k with
  | 0 => ("LandRegister$Deed", "number", "I", false)
  | 1 => ("LandRegister$Deed", "recordDay", "I", false)
  | 2 => ("LandRegister$Deed", "factDay", "I", false)
  | 3 => ("LandRegister$Deed", "outcome", "I", false)
  | 4 => ("LandRegister$Lift", "parcel", "I", true)
  | _ => ("LandRegister$Lift", "person", "I", true)
def e_Li : Nat → FieldType := fun k => match k with
  | 0 => .int
  | 1 => .int
  | 2 => .int
  | 3 => .int
  | 4 => .int
  | _ => .int
theorem nm_Li : ∀ a, a < 6 → ∀ b, b < 6 → a ≠ b → (T_Li a).2.1 ≠ (T_Li b).2.1 := by decide +kernel
theorem ty_Li : ∀ k, k < 6 → parseFieldDescriptor (T_Li k).2.2.1 = some (e_Li k) := by decide +kernel
def T_Sp : u_T := fun k => match k with
  | 0 => ("LandRegister$Deed", "number", "I", false)
  | 1 => ("LandRegister$Deed", "recordDay", "I", false)
  | 2 => ("LandRegister$Deed", "factDay", "I", false)
  | 3 => ("LandRegister$Deed", "outcome", "I", false)
  | 4 => ("LandRegister$Split", "parcel", "I", true)
  | _ => ("LandRegister$Split", "area", "I", true)
def e_Sp : Nat → FieldType := fun k => match k with
  | 0 => .int
  | 1 => .int
  | 2 => .int
  | 3 => .int
  | 4 => .int
  | _ => .int
theorem nm_Sp : ∀ a, a < 6 → ∀ b, b < 6 → a ≠ b → (T_Sp a).2.1 ≠ (T_Sp b).2.1 := by decide +kernel
theorem ty_Sp : ∀ k, k < 6 → parseFieldDescriptor (T_Sp k).2.2.1 = some (e_Sp k) := by decide +kernel
def T_Me : u_T := fun k => match k with
  | 0 => ("LandRegister$Deed", "number", "I", false)
  | 1 => ("LandRegister$Deed", "recordDay", "I", false)
  | 2 => ("LandRegister$Deed", "factDay", "I", false)
  | 3 => ("LandRegister$Deed", "outcome", "I", false)
  | 4 => ("LandRegister$Merge", "first", "I", true)
  | _ => ("LandRegister$Merge", "second", "I", true)
def e_Me : Nat → FieldType := fun k => match k with
  | 0 => .int
  | 1 => .int
  | 2 => .int
  | 3 => .int
  | 4 => .int
  | _ => .int
theorem nm_Me : ∀ a, a < 6 → ∀ b, b < 6 → a ≠ b → (T_Me a).2.1 ≠ (T_Me b).2.1 := by decide +kernel
theorem ty_Me : ∀ k, k < 6 → parseFieldDescriptor (T_Me k).2.2.1 = some (e_Me k) := by decide +kernel
def T_M : u_T := fun k => match k with
  | 0 => ("LandRegisterModel", "thrown", "I", false)
  | 1 => ("LandRegisterModel", "today", "I", false)
  | 2 => ("LandRegisterModel", "deeds", "I", false)
  | 3 => ("LandRegisterModel", "kind", "[I", true)
  | 4 => ("LandRegisterModel", "record", "[I", true)
  | 5 => ("LandRegisterModel", "fact", "[I", true)
  | 6 => ("LandRegisterModel", "first", "[I", true)
  | 7 => ("LandRegisterModel", "second", "[I", true)
  | 8 => ("LandRegisterModel", "third", "[I", true)
  | 9 => ("LandRegisterModel", "fourth", "[I", true)
  | 10 => ("LandRegisterModel", "states", "[I", true)
  | 11 => ("LandRegisterModel", "lives", "[Z", true)
  | 12 => ("LandRegisterModel", "areas", "[J", true)
  | 13 => ("LandRegisterModel", "tops", "[J", true)
  | 14 => ("LandRegisterModel", "bottoms", "[J", true)
  | 15 => ("LandRegisterModel", "many", "[I", true)
  | 16 => ("LandRegisterModel", "creditors", "[I", true)
  | 17 => ("LandRegisterModel", "amounts", "[I", true)
  | 18 => ("LandRegisterModel", "warned", "[I", true)
  | 19 => ("LandRegisterModel", "from", "[I", true)
  | _ => ("LandRegisterModel", "also", "[I", true)
def e_M : Nat → FieldType := fun k => match k with
  | 0 => .int
  | 1 => .int
  | 2 => .int
  | 3 => .array .int
  | 4 => .array .int
  | 5 => .array .int
  | 6 => .array .int
  | 7 => .array .int
  | 8 => .array .int
  | 9 => .array .int
  | 10 => .array .int
  | 11 => .array .boolean
  | 12 => .array .long
  | 13 => .array .long
  | 14 => .array .long
  | 15 => .array .int
  | 16 => .array .int
  | 17 => .array .int
  | 18 => .array .int
  | 19 => .array .int
  | _ => .array .int
theorem nm_M : ∀ a, a < 21 → ∀ b, b < 21 → a ≠ b → (T_M a).2.1 ≠ (T_M b).2.1 := by decide +kernel
theorem ty_M : ∀ k, k < 21 → parseFieldDescriptor (T_M k).2.2.1 = some (e_M k) := by decide +kernel
abbrev CL : List vw_C := [("LandRegister", T_LR, 5), ("LandRegister$Parcel", T_P, 9), ("LandRegister$Found", T_Fo, 6), ("LandRegister$Sell", T_Se, 8), ("LandRegister$Pledge", T_Pl, 7), ("LandRegister$Rerank", T_Re, 8), ("LandRegister$Release", T_Rl, 6), ("LandRegister$Caution", T_Ca, 6), ("LandRegister$Lift", T_Li, 6), ("LandRegister$Split", T_Sp, 6), ("LandRegister$Merge", T_Me, 6), ("LandRegisterModel", T_M, 21)]
def TT : List Cond := lw_tbl.filter goodWord
theorem tt_in {c : Cond} (i : Nat) (h : tables_1[i]? = some c) (g : goodWord c = true) : c ∈ TT := List.mem_filter.mpr ⟨List.mem_append_right _ (List.mem_of_getElem? h), g⟩
def nwOk : Cond → Bool
  | .methodLinkNest .. => true
  | .declares .. => true
  | .castable .. => true
  | _ => false
def NWL : List Cond := tables_1.filter nwOk
theorem NWL_ok : ∀ w ∈ NWL, nwOk w = true := fun _ h => (List.mem_filter.mp h).2
theorem nw_in {c : Cond} (i : Nat) (h : tables_1[i]? = some c) (g : nwOk c = true) : c ∈ NWL := List.mem_filter.mpr ⟨List.mem_of_getElem? h, g⟩
/-- the String constants -/
def STRL : List (String × Nat × String) := [("LandRegister", 155, "a fact day is 0 .. today"), ("LandRegister", 157, "a person is 0 .. 7"), ("LandRegister", 162, "an area or amount is 1 .. 1000000000"), ("LandRegister", 181, "40 deeds were filed"), ("LandRegister", 159, "a parcel is 0 .. 79"), ("LandRegister", 166, "the two are the same"), ("LandRegister", 174, "a denominator is 1 .. 1000000"), ("LandRegister", 179, "a numerator is 1 .. the denominator"), ("LandRegister", 164, "a rank is 1 .. 4"), ("LandRegister", 96, "it is the last day"), ("LandRegister", 106, "no such view"), ("LandRegister", 149, "there is no such deed")]
theorem in_LR : ∀ x ∈ u_ws "LandRegister" T_LR 5, x ∈ TT := by
  intro x hx
  obtain ⟨k, hk, rfl⟩ := List.mem_map.mp hx
  have hk := List.mem_range.mp hk
  match k, hk with
  | 0, _ => exact tt_in 103 (by decide +kernel) (by decide +kernel)
  | 1, _ => exact tt_in 105 (by decide +kernel) (by decide +kernel)
  | 2, _ => exact tt_in 107 (by decide +kernel) (by decide +kernel)
  | 3, _ => exact tt_in 109 (by decide +kernel) (by decide +kernel)
  | 4, _ => exact tt_in 111 (by decide +kernel) (by decide +kernel)
  | k + 5, hk => exact absurd hk (by omega)
theorem in_P : ∀ x ∈ u_ws "LandRegister$Parcel" T_P 9, x ∈ TT := by
  intro x hx
  obtain ⟨k, hk, rfl⟩ := List.mem_map.mp hx
  have hk := List.mem_range.mp hk
  match k, hk with
  | 0, _ => exact tt_in 77 (by decide +kernel) (by decide +kernel)
  | 1, _ => exact tt_in 79 (by decide +kernel) (by decide +kernel)
  | 2, _ => exact tt_in 81 (by decide +kernel) (by decide +kernel)
  | 3, _ => exact tt_in 83 (by decide +kernel) (by decide +kernel)
  | 4, _ => exact tt_in 85 (by decide +kernel) (by decide +kernel)
  | 5, _ => exact tt_in 87 (by decide +kernel) (by decide +kernel)
  | 6, _ => exact tt_in 89 (by decide +kernel) (by decide +kernel)
  | 7, _ => exact tt_in 91 (by decide +kernel) (by decide +kernel)
  | 8, _ => exact tt_in 93 (by decide +kernel) (by decide +kernel)
  | k + 9, hk => exact absurd hk (by omega)
theorem in_Fo : ∀ x ∈ u_ws "LandRegister$Found" T_Fo 6, x ∈ TT := by
  intro x hx
  obtain ⟨k, hk, rfl⟩ := List.mem_map.mp hx
  have hk := List.mem_range.mp hk
  match k, hk with
  | 0, _ => exact tt_in 254 (by decide +kernel) (by decide +kernel)
  | 1, _ => exact tt_in 256 (by decide +kernel) (by decide +kernel)
  | 2, _ => exact tt_in 258 (by decide +kernel) (by decide +kernel)
  | 3, _ => exact tt_in 260 (by decide +kernel) (by decide +kernel)
  | 4, _ => exact tt_in 250 (by decide +kernel) (by decide +kernel)
  | 5, _ => exact tt_in 252 (by decide +kernel) (by decide +kernel)
  | k + 6, hk => exact absurd hk (by omega)
theorem in_Se : ∀ x ∈ u_ws "LandRegister$Sell" T_Se 8, x ∈ TT := by
  intro x hx
  obtain ⟨k, hk, rfl⟩ := List.mem_map.mp hx
  have hk := List.mem_range.mp hk
  match k, hk with
  | 0, _ => exact tt_in 462 (by decide +kernel) (by decide +kernel)
  | 1, _ => exact tt_in 463 (by decide +kernel) (by decide +kernel)
  | 2, _ => exact tt_in 464 (by decide +kernel) (by decide +kernel)
  | 3, _ => exact tt_in 465 (by decide +kernel) (by decide +kernel)
  | 4, _ => exact tt_in 454 (by decide +kernel) (by decide +kernel)
  | 5, _ => exact tt_in 456 (by decide +kernel) (by decide +kernel)
  | 6, _ => exact tt_in 458 (by decide +kernel) (by decide +kernel)
  | 7, _ => exact tt_in 460 (by decide +kernel) (by decide +kernel)
  | k + 8, hk => exact absurd hk (by omega)
theorem in_Pl : ∀ x ∈ u_ws "LandRegister$Pledge" T_Pl 7, x ∈ TT := by
  intro x hx
  obtain ⟨k, hk, rfl⟩ := List.mem_map.mp hx
  have hk := List.mem_range.mp hk
  match k, hk with
  | 0, _ => exact tt_in 489 (by decide +kernel) (by decide +kernel)
  | 1, _ => exact tt_in 490 (by decide +kernel) (by decide +kernel)
  | 2, _ => exact tt_in 491 (by decide +kernel) (by decide +kernel)
  | 3, _ => exact tt_in 492 (by decide +kernel) (by decide +kernel)
  | 4, _ => exact tt_in 483 (by decide +kernel) (by decide +kernel)
  | 5, _ => exact tt_in 485 (by decide +kernel) (by decide +kernel)
  | 6, _ => exact tt_in 487 (by decide +kernel) (by decide +kernel)
  | k + 7, hk => exact absurd hk (by omega)
theorem in_Re : ∀ x ∈ u_ws "LandRegister$Rerank" T_Re 8, x ∈ TT := by
  intro x hx
  obtain ⟨k, hk, rfl⟩ := List.mem_map.mp hx
  have hk := List.mem_range.mp hk
  match k, hk with
  | 0, _ => exact tt_in 522 (by decide +kernel) (by decide +kernel)
  | 1, _ => exact tt_in 523 (by decide +kernel) (by decide +kernel)
  | 2, _ => exact tt_in 524 (by decide +kernel) (by decide +kernel)
  | 3, _ => exact tt_in 525 (by decide +kernel) (by decide +kernel)
  | 4, _ => exact tt_in 514 (by decide +kernel) (by decide +kernel)
  | 5, _ => exact tt_in 516 (by decide +kernel) (by decide +kernel)
  | 6, _ => exact tt_in 518 (by decide +kernel) (by decide +kernel)
  | 7, _ => exact tt_in 520 (by decide +kernel) (by decide +kernel)
  | k + 8, hk => exact absurd hk (by omega)
theorem in_Rl : ∀ x ∈ u_ws "LandRegister$Release" T_Rl 6, x ∈ TT := by
  intro x hx
  obtain ⟨k, hk, rfl⟩ := List.mem_map.mp hx
  have hk := List.mem_range.mp hk
  match k, hk with
  | 0, _ => exact tt_in 546 (by decide +kernel) (by decide +kernel)
  | 1, _ => exact tt_in 547 (by decide +kernel) (by decide +kernel)
  | 2, _ => exact tt_in 548 (by decide +kernel) (by decide +kernel)
  | 3, _ => exact tt_in 549 (by decide +kernel) (by decide +kernel)
  | 4, _ => exact tt_in 542 (by decide +kernel) (by decide +kernel)
  | 5, _ => exact tt_in 544 (by decide +kernel) (by decide +kernel)
  | k + 6, hk => exact absurd hk (by omega)
theorem in_Ca : ∀ x ∈ u_ws "LandRegister$Caution" T_Ca 6, x ∈ TT := by
  intro x hx
  obtain ⟨k, hk, rfl⟩ := List.mem_map.mp hx
  have hk := List.mem_range.mp hk
  match k, hk with
  | 0, _ => exact tt_in 570 (by decide +kernel) (by decide +kernel)
  | 1, _ => exact tt_in 571 (by decide +kernel) (by decide +kernel)
  | 2, _ => exact tt_in 572 (by decide +kernel) (by decide +kernel)
  | 3, _ => exact tt_in 573 (by decide +kernel) (by decide +kernel)
  | 4, _ => exact tt_in 566 (by decide +kernel) (by decide +kernel)
  | 5, _ => exact tt_in 568 (by decide +kernel) (by decide +kernel)
  | k + 6, hk => exact absurd hk (by omega)
theorem in_Li : ∀ x ∈ u_ws "LandRegister$Lift" T_Li 6, x ∈ TT := by
  intro x hx
  obtain ⟨k, hk, rfl⟩ := List.mem_map.mp hx
  have hk := List.mem_range.mp hk
  match k, hk with
  | 0, _ => exact tt_in 594 (by decide +kernel) (by decide +kernel)
  | 1, _ => exact tt_in 595 (by decide +kernel) (by decide +kernel)
  | 2, _ => exact tt_in 596 (by decide +kernel) (by decide +kernel)
  | 3, _ => exact tt_in 597 (by decide +kernel) (by decide +kernel)
  | 4, _ => exact tt_in 590 (by decide +kernel) (by decide +kernel)
  | 5, _ => exact tt_in 592 (by decide +kernel) (by decide +kernel)
  | k + 6, hk => exact absurd hk (by omega)
theorem in_Sp : ∀ x ∈ u_ws "LandRegister$Split" T_Sp 6, x ∈ TT := by
  intro x hx
  obtain ⟨k, hk, rfl⟩ := List.mem_map.mp hx
  have hk := List.mem_range.mp hk
  match k, hk with
  | 0, _ => exact tt_in 618 (by decide +kernel) (by decide +kernel)
  | 1, _ => exact tt_in 619 (by decide +kernel) (by decide +kernel)
  | 2, _ => exact tt_in 620 (by decide +kernel) (by decide +kernel)
  | 3, _ => exact tt_in 621 (by decide +kernel) (by decide +kernel)
  | 4, _ => exact tt_in 614 (by decide +kernel) (by decide +kernel)
  | 5, _ => exact tt_in 616 (by decide +kernel) (by decide +kernel)
  | k + 6, hk => exact absurd hk (by omega)
theorem in_Me : ∀ x ∈ u_ws "LandRegister$Merge" T_Me 6, x ∈ TT := by
  intro x hx
  obtain ⟨k, hk, rfl⟩ := List.mem_map.mp hx
  have hk := List.mem_range.mp hk
  match k, hk with
  | 0, _ => exact tt_in 642 (by decide +kernel) (by decide +kernel)
  | 1, _ => exact tt_in 643 (by decide +kernel) (by decide +kernel)
  | 2, _ => exact tt_in 644 (by decide +kernel) (by decide +kernel)
  | 3, _ => exact tt_in 645 (by decide +kernel) (by decide +kernel)
  | 4, _ => exact tt_in 638 (by decide +kernel) (by decide +kernel)
  | 5, _ => exact tt_in 640 (by decide +kernel) (by decide +kernel)
  | k + 6, hk => exact absurd hk (by omega)
theorem in_M : ∀ x ∈ u_ws "LandRegisterModel" T_M 21, x ∈ TT := by
  intro x hx
  obtain ⟨k, hk, rfl⟩ := List.mem_map.mp hx
  have hk := List.mem_range.mp hk
  match k, hk with
  | 0, _ => exact tt_in 826 (by decide +kernel) (by decide +kernel)
  | 1, _ => exact tt_in 828 (by decide +kernel) (by decide +kernel)
  | 2, _ => exact tt_in 830 (by decide +kernel) (by decide +kernel)
  | 3, _ => exact tt_in 832 (by decide +kernel) (by decide +kernel)
  | 4, _ => exact tt_in 834 (by decide +kernel) (by decide +kernel)
  | 5, _ => exact tt_in 836 (by decide +kernel) (by decide +kernel)
  | 6, _ => exact tt_in 838 (by decide +kernel) (by decide +kernel)
  | 7, _ => exact tt_in 840 (by decide +kernel) (by decide +kernel)
  | 8, _ => exact tt_in 842 (by decide +kernel) (by decide +kernel)
  | 9, _ => exact tt_in 844 (by decide +kernel) (by decide +kernel)
  | 10, _ => exact tt_in 846 (by decide +kernel) (by decide +kernel)
  | 11, _ => exact tt_in 848 (by decide +kernel) (by decide +kernel)
  | 12, _ => exact tt_in 850 (by decide +kernel) (by decide +kernel)
  | 13, _ => exact tt_in 852 (by decide +kernel) (by decide +kernel)
  | 14, _ => exact tt_in 854 (by decide +kernel) (by decide +kernel)
  | 15, _ => exact tt_in 856 (by decide +kernel) (by decide +kernel)
  | 16, _ => exact tt_in 858 (by decide +kernel) (by decide +kernel)
  | 17, _ => exact tt_in 860 (by decide +kernel) (by decide +kernel)
  | 18, _ => exact tt_in 862 (by decide +kernel) (by decide +kernel)
  | 19, _ => exact tt_in 864 (by decide +kernel) (by decide +kernel)
  | 20, _ => exact tt_in 866 (by decide +kernel) (by decide +kernel)
  | k + 21, hk => exact absurd hk (by omega)
def HdOk (hd : Cond) (y : MethodName) (maxL : Nat) : Prop := (∃ b ret, hd = .code y b maxL ret) ∨ ∃ b ret hh, hd = .codeWith y b maxL ret hh
def y_LR_init : MethodName := ⟨"LandRegister", "<init>", "()V"⟩
abbrev b_LR_init : ByteArray := prog_1_method_1_code
abbrev hd_LR_init : Cond := .code y_LR_init b_LR_init 2 none
set_option maxRecDepth 100000 in
theorem hdT_LR_init : hd_LR_init ∈ TT := tt_in 27 rfl rfl
theorem hdO_LR_init : HdOk hd_LR_init y_LR_init 2 := Or.inl ⟨_, _, rfl⟩
def y_LR_found : MethodName := ⟨"LandRegister", "found", "(III)I"⟩
abbrev b_LR_found : ByteArray := prog_1_method_2_code
abbrev hd_LR_found : Cond := .code y_LR_found b_LR_found 4 (some .int)
set_option maxRecDepth 100000 in
theorem hdT_LR_found : hd_LR_found ∈ TT := tt_in 126 rfl rfl
theorem hdO_LR_found : HdOk hd_LR_found y_LR_found 4 := Or.inl ⟨_, _, rfl⟩
def y_LR_sell : MethodName := ⟨"LandRegister", "sell", "(IIIIJ)I"⟩
abbrev b_LR_sell : ByteArray := prog_1_method_3_code
abbrev hd_LR_sell : Cond := .code y_LR_sell b_LR_sell 7 (some .int)
set_option maxRecDepth 100000 in
theorem hdT_LR_sell : hd_LR_sell ∈ TT := tt_in 430 rfl rfl
theorem hdO_LR_sell : HdOk hd_LR_sell y_LR_sell 7 := Or.inl ⟨_, _, rfl⟩
def y_LR_pledge : MethodName := ⟨"LandRegister", "pledge", "(IIII)I"⟩
abbrev b_LR_pledge : ByteArray := prog_1_method_4_code
abbrev hd_LR_pledge : Cond := .code y_LR_pledge b_LR_pledge 5 (some .int)
set_option maxRecDepth 100000 in
theorem hdT_LR_pledge : hd_LR_pledge ∈ TT := tt_in 473 rfl rfl
theorem hdO_LR_pledge : HdOk hd_LR_pledge y_LR_pledge 5 := Or.inl ⟨_, _, rfl⟩
def y_LR_rerank : MethodName := ⟨"LandRegister", "rerank", "(IIIII)I"⟩
abbrev b_LR_rerank : ByteArray := prog_1_method_5_code
abbrev hd_LR_rerank : Cond := .code y_LR_rerank b_LR_rerank 6 (some .int)
set_option maxRecDepth 100000 in
theorem hdT_LR_rerank : hd_LR_rerank ∈ TT := tt_in 500 rfl rfl
theorem hdO_LR_rerank : HdOk hd_LR_rerank y_LR_rerank 6 := Or.inl ⟨_, _, rfl⟩
def y_LR_release : MethodName := ⟨"LandRegister", "release", "(III)I"⟩
abbrev b_LR_release : ByteArray := prog_1_method_6_code
abbrev hd_LR_release : Cond := .code y_LR_release b_LR_release 4 (some .int)
set_option maxRecDepth 100000 in
theorem hdT_LR_release : hd_LR_release ∈ TT := tt_in 533 rfl rfl
theorem hdO_LR_release : HdOk hd_LR_release y_LR_release 4 := Or.inl ⟨_, _, rfl⟩
def y_LR_caution : MethodName := ⟨"LandRegister", "caution", "(III)I"⟩
abbrev b_LR_caution : ByteArray := prog_1_method_7_code
abbrev hd_LR_caution : Cond := .code y_LR_caution b_LR_caution 4 (some .int)
set_option maxRecDepth 100000 in
theorem hdT_LR_caution : hd_LR_caution ∈ TT := tt_in 557 rfl rfl
theorem hdO_LR_caution : HdOk hd_LR_caution y_LR_caution 4 := Or.inl ⟨_, _, rfl⟩
def y_LR_lift : MethodName := ⟨"LandRegister", "lift", "(III)I"⟩
abbrev b_LR_lift : ByteArray := prog_1_method_8_code
abbrev hd_LR_lift : Cond := .code y_LR_lift b_LR_lift 4 (some .int)
set_option maxRecDepth 100000 in
theorem hdT_LR_lift : hd_LR_lift ∈ TT := tt_in 581 rfl rfl
theorem hdO_LR_lift : HdOk hd_LR_lift y_LR_lift 4 := Or.inl ⟨_, _, rfl⟩
def y_LR_split : MethodName := ⟨"LandRegister", "split", "(III)I"⟩
abbrev b_LR_split : ByteArray := prog_1_method_9_code
abbrev hd_LR_split : Cond := .code y_LR_split b_LR_split 4 (some .int)
set_option maxRecDepth 100000 in
theorem hdT_LR_split : hd_LR_split ∈ TT := tt_in 605 rfl rfl
theorem hdO_LR_split : HdOk hd_LR_split y_LR_split 4 := Or.inl ⟨_, _, rfl⟩
def y_LR_merge : MethodName := ⟨"LandRegister", "merge", "(III)I"⟩
abbrev b_LR_merge : ByteArray := prog_1_method_10_code
abbrev hd_LR_merge : Cond := .code y_LR_merge b_LR_merge 4 (some .int)
set_option maxRecDepth 100000 in
theorem hdT_LR_merge : hd_LR_merge ∈ TT := tt_in 629 rfl rfl
theorem hdO_LR_merge : HdOk hd_LR_merge y_LR_merge 4 := Or.inl ⟨_, _, rfl⟩
def y_LR_day : MethodName := ⟨"LandRegister", "day", "()I"⟩
abbrev b_LR_day : ByteArray := prog_1_method_11_code
abbrev hd_LR_day : Cond := .code y_LR_day b_LR_day 1 (some .int)
set_option maxRecDepth 100000 in
theorem hdT_LR_day : hd_LR_day ∈ TT := tt_in 653 rfl rfl
theorem hdO_LR_day : HdOk hd_LR_day y_LR_day 1 := Or.inl ⟨_, _, rfl⟩
def y_LR_view : MethodName := ⟨"LandRegister", "view", "(II)I"⟩
abbrev b_LR_view : ByteArray := prog_1_method_12_code
abbrev hd_LR_view : Cond := .code y_LR_view b_LR_view 5 (some .int)
set_option maxRecDepth 100000 in
theorem hdT_LR_view : hd_LR_view ∈ TT := tt_in 661 rfl rfl
theorem hdO_LR_view : HdOk hd_LR_view y_LR_view 5 := Or.inl ⟨_, _, rfl⟩
def y_LR_parcel : MethodName := ⟨"LandRegister", "parcel", "(I)I"⟩
abbrev b_LR_parcel : ByteArray := prog_1_method_13_code
abbrev hd_LR_parcel : Cond := .code y_LR_parcel b_LR_parcel 4 (some .int)
set_option maxRecDepth 100000 in
theorem hdT_LR_parcel : hd_LR_parcel ∈ TT := tt_in 117 rfl rfl
theorem hdO_LR_parcel : HdOk hd_LR_parcel y_LR_parcel 4 := Or.inl ⟨_, _, rfl⟩
def y_LR_area : MethodName := ⟨"LandRegister", "area", "(I)J"⟩
abbrev b_LR_area : ByteArray := prog_1_method_14_code
abbrev hd_LR_area : Cond := .code y_LR_area b_LR_area 3 (some .long)
set_option maxRecDepth 100000 in
theorem hdT_LR_area : hd_LR_area ∈ TT := tt_in 669 rfl rfl
theorem hdO_LR_area : HdOk hd_LR_area y_LR_area 3 := Or.inl ⟨_, _, rfl⟩
def y_LR_share : MethodName := ⟨"LandRegister", "share", "(II)J"⟩
abbrev b_LR_share : ByteArray := prog_1_method_15_code
abbrev hd_LR_share : Cond := .code y_LR_share b_LR_share 4 (some .long)
set_option maxRecDepth 100000 in
theorem hdT_LR_share : hd_LR_share ∈ TT := tt_in 676 rfl rfl
theorem hdO_LR_share : HdOk hd_LR_share y_LR_share 4 := Or.inl ⟨_, _, rfl⟩
def y_LR_mortgage : MethodName := ⟨"LandRegister", "mortgage", "(III)I"⟩
abbrev b_LR_mortgage : ByteArray := prog_1_method_16_code
abbrev hd_LR_mortgage : Cond := .code y_LR_mortgage b_LR_mortgage 5 (some .int)
set_option maxRecDepth 100000 in
theorem hdT_LR_mortgage : hd_LR_mortgage ∈ TT := tt_in 683 rfl rfl
theorem hdO_LR_mortgage : HdOk hd_LR_mortgage y_LR_mortgage 5 := Or.inl ⟨_, _, rfl⟩
def y_LR_cautions : MethodName := ⟨"LandRegister", "cautions", "(I)I"⟩
abbrev b_LR_cautions : ByteArray := prog_1_method_17_code
abbrev hd_LR_cautions : Cond := .code y_LR_cautions b_LR_cautions 3 (some .int)
set_option maxRecDepth 100000 in
theorem hdT_LR_cautions : hd_LR_cautions ∈ TT := tt_in 690 rfl rfl
theorem hdO_LR_cautions : HdOk hd_LR_cautions y_LR_cautions 3 := Or.inl ⟨_, _, rfl⟩
def y_LR_origin : MethodName := ⟨"LandRegister", "origin", "(II)I"⟩
abbrev b_LR_origin : ByteArray := prog_1_method_18_code
abbrev hd_LR_origin : Cond := .code y_LR_origin b_LR_origin 4 (some .int)
set_option maxRecDepth 100000 in
theorem hdT_LR_origin : hd_LR_origin ∈ TT := tt_in 697 rfl rfl
theorem hdO_LR_origin : HdOk hd_LR_origin y_LR_origin 4 := Or.inl ⟨_, _, rfl⟩
def y_LR_holding : MethodName := ⟨"LandRegister", "holding", "(II)I"⟩
abbrev b_LR_holding : ByteArray := prog_1_method_19_code
abbrev hd_LR_holding : Cond := .code y_LR_holding b_LR_holding 5 (some .int)
set_option maxRecDepth 100000 in
theorem hdT_LR_holding : hd_LR_holding ∈ TT := tt_in 704 rfl rfl
theorem hdO_LR_holding : HdOk hd_LR_holding y_LR_holding 5 := Or.inl ⟨_, _, rfl⟩
def y_LR_owed : MethodName := ⟨"LandRegister", "owed", "(I)J"⟩
abbrev b_LR_owed : ByteArray := prog_1_method_20_code
abbrev hd_LR_owed : Cond := .code y_LR_owed b_LR_owed 5 (some .long)
set_option maxRecDepth 100000 in
theorem hdT_LR_owed : hd_LR_owed ∈ TT := tt_in 711 rfl rfl
theorem hdO_LR_owed : HdOk hd_LR_owed y_LR_owed 5 := Or.inl ⟨_, _, rfl⟩
def y_LR_state : MethodName := ⟨"LandRegister", "state", "(I)I"⟩
abbrev b_LR_state : ByteArray := prog_1_method_21_code
abbrev hd_LR_state : Cond := .code y_LR_state b_LR_state 2 (some .int)
set_option maxRecDepth 100000 in
theorem hdT_LR_state : hd_LR_state ∈ TT := tt_in 723 rfl rfl
theorem hdO_LR_state : HdOk hd_LR_state y_LR_state 2 := Or.inl ⟨_, _, rfl⟩
def y_LR_requireFactDay : MethodName := ⟨"LandRegister", "requireFactDay", "(I)V"⟩
abbrev b_LR_requireFactDay : ByteArray := prog_1_method_22_code
abbrev hd_LR_requireFactDay : Cond := .code y_LR_requireFactDay b_LR_requireFactDay 2 none
set_option maxRecDepth 100000 in
theorem hdT_LR_requireFactDay : hd_LR_requireFactDay ∈ TT := tt_in 130 rfl rfl
theorem hdO_LR_requireFactDay : HdOk hd_LR_requireFactDay y_LR_requireFactDay 2 := Or.inl ⟨_, _, rfl⟩
def y_LR_requirePerson : MethodName := ⟨"LandRegister", "requirePerson", "(I)V"⟩
abbrev b_LR_requirePerson : ByteArray := prog_1_method_23_code
abbrev hd_LR_requirePerson : Cond := .code y_LR_requirePerson b_LR_requirePerson 1 none
set_option maxRecDepth 100000 in
theorem hdT_LR_requirePerson : hd_LR_requirePerson ∈ TT := tt_in 201 rfl rfl
theorem hdO_LR_requirePerson : HdOk hd_LR_requirePerson y_LR_requirePerson 1 := Or.inl ⟨_, _, rfl⟩
def y_LR_requireParcel : MethodName := ⟨"LandRegister", "requireParcel", "(I)V"⟩
abbrev b_LR_requireParcel : ByteArray := prog_1_method_24_code
abbrev hd_LR_requireParcel : Cond := .code y_LR_requireParcel b_LR_requireParcel 1 none
set_option maxRecDepth 100000 in
theorem hdT_LR_requireParcel : hd_LR_requireParcel ∈ TT := tt_in 433 rfl rfl
theorem hdO_LR_requireParcel : HdOk hd_LR_requireParcel y_LR_requireParcel 1 := Or.inl ⟨_, _, rfl⟩
def y_LR_requireUnits : MethodName := ⟨"LandRegister", "requireUnits", "(I)V"⟩
abbrev b_LR_requireUnits : ByteArray := prog_1_method_25_code
abbrev hd_LR_requireUnits : Cond := .code y_LR_requireUnits b_LR_requireUnits 1 none
set_option maxRecDepth 100000 in
theorem hdT_LR_requireUnits : hd_LR_requireUnits ∈ TT := tt_in 205 rfl rfl
theorem hdO_LR_requireUnits : HdOk hd_LR_requireUnits y_LR_requireUnits 1 := Or.inl ⟨_, _, rfl⟩
def y_LR_requireRank : MethodName := ⟨"LandRegister", "requireRank", "(I)V"⟩
abbrev b_LR_requireRank : ByteArray := prog_1_method_26_code
abbrev hd_LR_requireRank : Cond := .code y_LR_requireRank b_LR_requireRank 1 none
set_option maxRecDepth 100000 in
theorem hdT_LR_requireRank : hd_LR_requireRank ∈ TT := tt_in 503 rfl rfl
theorem hdO_LR_requireRank : HdOk hd_LR_requireRank y_LR_requireRank 1 := Or.inl ⟨_, _, rfl⟩
def y_LR_requireDifferent : MethodName := ⟨"LandRegister", "requireDifferent", "(II)V"⟩
abbrev b_LR_requireDifferent : ByteArray := prog_1_method_27_code
abbrev hd_LR_requireDifferent : Cond := .code y_LR_requireDifferent b_LR_requireDifferent 2 none
set_option maxRecDepth 100000 in
theorem hdT_LR_requireDifferent : hd_LR_requireDifferent ∈ TT := tt_in 437 rfl rfl
theorem hdO_LR_requireDifferent : HdOk hd_LR_requireDifferent y_LR_requireDifferent 2 := Or.inl ⟨_, _, rfl⟩
def y_LR_requireFraction : MethodName := ⟨"LandRegister", "requireFraction", "(J)V"⟩
abbrev b_LR_requireFraction : ByteArray := prog_1_method_28_code
abbrev hd_LR_requireFraction : Cond := .code y_LR_requireFraction b_LR_requireFraction 4 none
set_option maxRecDepth 100000 in
theorem hdT_LR_requireFraction : hd_LR_requireFraction ∈ TT := tt_in 441 rfl rfl
theorem hdO_LR_requireFraction : HdOk hd_LR_requireFraction y_LR_requireFraction 4 := Or.inl ⟨_, _, rfl⟩
def y_LR_requireFreeNumber : MethodName := ⟨"LandRegister", "requireFreeNumber", "()V"⟩
abbrev b_LR_requireFreeNumber : ByteArray := prog_1_method_29_code
abbrev hd_LR_requireFreeNumber : Cond := .code y_LR_requireFreeNumber b_LR_requireFreeNumber 1 none
set_option maxRecDepth 100000 in
theorem hdT_LR_requireFreeNumber : hd_LR_requireFreeNumber ∈ TT := tt_in 211 rfl rfl
theorem hdO_LR_requireFreeNumber : HdOk hd_LR_requireFreeNumber y_LR_requireFreeNumber 1 := Or.inl ⟨_, _, rfl⟩
def y_LR_file : MethodName := ⟨"LandRegister", "file", "(ILLandRegister$Deed;)I"⟩
abbrev b_LR_file : ByteArray := prog_1_method_30_code
abbrev hd_LR_file : Cond := .code y_LR_file b_LR_file 5 (some .int)
set_option maxRecDepth 100000 in
theorem hdT_LR_file : hd_LR_file ∈ TT := tt_in 266 rfl rfl
theorem hdO_LR_file : HdOk hd_LR_file y_LR_file 5 := Or.inl ⟨_, _, rfl⟩
def y_LR_lookAt : MethodName := ⟨"LandRegister", "lookAt", "(II)V"⟩
abbrev b_LR_lookAt : ByteArray := prog_1_method_31_code
abbrev hd_LR_lookAt : Cond := .code y_LR_lookAt b_LR_lookAt 5 none
set_option maxRecDepth 100000 in
theorem hdT_LR_lookAt : hd_LR_lookAt ∈ TT := tt_in 270 rfl rfl
theorem hdO_LR_lookAt : HdOk hd_LR_lookAt y_LR_lookAt 5 := Or.inl ⟨_, _, rfl⟩
def y_LR_numerator : MethodName := ⟨"LandRegister", "numerator", "(J)J"⟩
abbrev b_LR_numerator : ByteArray := prog_1_method_32_code
abbrev hd_LR_numerator : Cond := .code y_LR_numerator b_LR_numerator 2 (some .long)
set_option maxRecDepth 100000 in
theorem hdT_LR_numerator : hd_LR_numerator ∈ TT := tt_in 338 rfl rfl
theorem hdO_LR_numerator : HdOk hd_LR_numerator y_LR_numerator 2 := Or.inl ⟨_, _, rfl⟩
def y_LR_denominator : MethodName := ⟨"LandRegister", "denominator", "(J)J"⟩
abbrev b_LR_denominator : ByteArray := prog_1_method_33_code
abbrev hd_LR_denominator : Cond := .code y_LR_denominator b_LR_denominator 2 (some .long)
set_option maxRecDepth 100000 in
theorem hdT_LR_denominator : hd_LR_denominator ∈ TT := tt_in 344 rfl rfl
theorem hdO_LR_denominator : HdOk hd_LR_denominator y_LR_denominator 2 := Or.inl ⟨_, _, rfl⟩
def y_LR_parts : MethodName := ⟨"LandRegister", "parts", "(J)J"⟩
abbrev b_LR_parts : ByteArray := prog_1_method_34_code
abbrev hd_LR_parts : Cond := .code y_LR_parts b_LR_parts 2 (some .long)
set_option maxRecDepth 100000 in
theorem hdT_LR_parts : hd_LR_parts ∈ TT := tt_in 341 rfl rfl
theorem hdO_LR_parts : HdOk hd_LR_parts y_LR_parts 2 := Or.inl ⟨_, _, rfl⟩
def y_LR_isLess : MethodName := ⟨"LandRegister", "isLess", "(JJ)Z"⟩
abbrev b_LR_isLess : ByteArray := prog_1_method_35_code
abbrev hd_LR_isLess : Cond := .code y_LR_isLess b_LR_isLess 4 (some .boolean)
set_option maxRecDepth 100000 in
theorem hdT_LR_isLess : hd_LR_isLess ∈ TT := tt_in 335 rfl rfl
theorem hdO_LR_isLess : HdOk hd_LR_isLess y_LR_isLess 4 := Or.inl ⟨_, _, rfl⟩
def y_LR_plus : MethodName := ⟨"LandRegister", "plus", "(JJ)J"⟩
abbrev b_LR_plus : ByteArray := prog_1_method_36_code
abbrev hd_LR_plus : Cond := .code y_LR_plus b_LR_plus 4 (some .long)
set_option maxRecDepth 100000 in
theorem hdT_LR_plus : hd_LR_plus ∈ TT := tt_in 363 rfl rfl
theorem hdO_LR_plus : HdOk hd_LR_plus y_LR_plus 4 := Or.inl ⟨_, _, rfl⟩
def y_LR_minus : MethodName := ⟨"LandRegister", "minus", "(JJ)J"⟩
abbrev b_LR_minus : ByteArray := prog_1_method_37_code
abbrev hd_LR_minus : Cond := .code y_LR_minus b_LR_minus 4 (some .long)
set_option maxRecDepth 100000 in
theorem hdT_LR_minus : hd_LR_minus ∈ TT := tt_in 351 rfl rfl
theorem hdO_LR_minus : HdOk hd_LR_minus y_LR_minus 4 := Or.inl ⟨_, _, rfl⟩
def y_LR_lowest : MethodName := ⟨"LandRegister", "lowest", "(JJ)J"⟩
abbrev b_LR_lowest : ByteArray := prog_1_method_38_code
abbrev hd_LR_lowest : Cond := .code y_LR_lowest b_LR_lowest 6 (some .long)
set_option maxRecDepth 100000 in
theorem hdT_LR_lowest : hd_LR_lowest ∈ TT := tt_in 354 rfl rfl
theorem hdO_LR_lowest : HdOk hd_LR_lowest y_LR_lowest 6 := Or.inl ⟨_, _, rfl⟩
def y_LR_commonDivisor : MethodName := ⟨"LandRegister", "commonDivisor", "(JJ)J"⟩
abbrev b_LR_commonDivisor : ByteArray := prog_1_method_39_code
abbrev hd_LR_commonDivisor : Cond := .code y_LR_commonDivisor b_LR_commonDivisor 11 (some .long)
set_option maxRecDepth 100000 in
theorem hdT_LR_commonDivisor : hd_LR_commonDivisor ∈ TT := tt_in 357 rfl rfl
theorem hdO_LR_commonDivisor : HdOk hd_LR_commonDivisor y_LR_commonDivisor 11 := Or.inl ⟨_, _, rfl⟩
def y_P_init : MethodName := ⟨"LandRegister$Parcel", "<init>", "()V"⟩
abbrev b_P_init : ByteArray := prog_7_method_1_code
abbrev hd_P_init : Cond := .code y_P_init b_P_init 1 none
set_option maxRecDepth 100000 in
theorem hdT_P_init : hd_P_init ∈ TT := tt_in 38 rfl rfl
theorem hdO_P_init : HdOk hd_P_init y_P_init 1 := Or.inl ⟨_, _, rfl⟩
def y_P_unmake : MethodName := ⟨"LandRegister$Parcel", "unmake", "()V"⟩
abbrev b_P_unmake : ByteArray := prog_7_method_2_code
abbrev hd_P_unmake : Cond := .code y_P_unmake b_P_unmake 1 none
set_option maxRecDepth 100000 in
theorem hdT_P_unmake : hd_P_unmake ∈ TT := tt_in 274 rfl rfl
theorem hdO_P_unmake : HdOk hd_P_unmake y_P_unmake 1 := Or.inl ⟨_, _, rfl⟩
def y_P_makeFor : MethodName := ⟨"LandRegister$Parcel", "makeFor", "(IJ)V"⟩
abbrev b_P_makeFor : ByteArray := prog_7_method_3_code
abbrev hd_P_makeFor : Cond := .code y_P_makeFor b_P_makeFor 4 none
set_option maxRecDepth 100000 in
theorem hdT_P_makeFor : hd_P_makeFor ∈ TT := tt_in 380 rfl rfl
theorem hdO_P_makeFor : HdOk hd_P_makeFor y_P_makeFor 4 := Or.inl ⟨_, _, rfl⟩
def y_P_makeFrom : MethodName := ⟨"LandRegister$Parcel", "makeFrom", "(LLandRegister$Parcel;J)V"⟩
abbrev b_P_makeFrom : ByteArray := prog_7_method_4_code
abbrev hd_P_makeFrom : Cond := .code y_P_makeFrom b_P_makeFrom 4 none
set_option maxRecDepth 100000 in
theorem hdT_P_makeFrom : hd_P_makeFrom ∈ TT := tt_in 394 rfl rfl
theorem hdO_P_makeFrom : HdOk hd_P_makeFrom y_P_makeFrom 4 := Or.inl ⟨_, _, rfl⟩
def y_P_closedness : MethodName := ⟨"LandRegister$Parcel", "closedness", "()I"⟩
abbrev b_P_closedness : ByteArray := prog_7_method_5_code
abbrev hd_P_closedness : Cond := .code y_P_closedness b_P_closedness 1 (some .int)
set_option maxRecDepth 100000 in
theorem hdT_P_closedness : hd_P_closedness ∈ TT := tt_in 309 rfl rfl
theorem hdO_P_closedness : HdOk hd_P_closedness y_P_closedness 1 := Or.inl ⟨_, _, rfl⟩
def y_P_hasCautionOf : MethodName := ⟨"LandRegister$Parcel", "hasCautionOf", "(I)Z"⟩
abbrev b_P_hasCautionOf : ByteArray := prog_7_method_6_code
abbrev hd_P_hasCautionOf : Cond := .code y_P_hasCautionOf b_P_hasCautionOf 2 (some .boolean)
set_option maxRecDepth 100000 in
theorem hdT_P_hasCautionOf : hd_P_hasCautionOf ∈ TT := tt_in 284 rfl rfl
theorem hdO_P_hasCautionOf : HdOk hd_P_hasCautionOf y_P_hasCautionOf 2 := Or.inl ⟨_, _, rfl⟩
def y_P_addMortgage : MethodName := ⟨"LandRegister$Parcel", "addMortgage", "(III)V"⟩
abbrev b_P_addMortgage : ByteArray := prog_7_method_7_code
abbrev hd_P_addMortgage : Cond := .code y_P_addMortgage b_P_addMortgage 5 none
set_option maxRecDepth 100000 in
theorem hdT_P_addMortgage : hd_P_addMortgage ∈ TT := tt_in 404 rfl rfl
theorem hdO_P_addMortgage : HdOk hd_P_addMortgage y_P_addMortgage 5 := Or.inl ⟨_, _, rfl⟩
def y_P_dropMortgage : MethodName := ⟨"LandRegister$Parcel", "dropMortgage", "(I)V"⟩
abbrev b_P_dropMortgage : ByteArray := prog_7_method_8_code
abbrev hd_P_dropMortgage : Cond := .code y_P_dropMortgage b_P_dropMortgage 3 none
set_option maxRecDepth 100000 in
theorem hdT_P_dropMortgage : hd_P_dropMortgage ∈ TT := tt_in 411 rfl rfl
theorem hdO_P_dropMortgage : HdOk hd_P_dropMortgage y_P_dropMortgage 3 := Or.inl ⟨_, _, rfl⟩
def y_P_creditorsOf : MethodName := ⟨"LandRegister$Parcel", "creditorsOf", "(II)I"⟩
abbrev b_P_creditorsOf : ByteArray := prog_7_method_9_code
abbrev hd_P_creditorsOf : Cond := .code y_P_creditorsOf b_P_creditorsOf 5 (some .int)
set_option maxRecDepth 100000 in
theorem hdT_P_creditorsOf : hd_P_creditorsOf ∈ TT := tt_in 328 rfl rfl
theorem hdO_P_creditorsOf : HdOk hd_P_creditorsOf y_P_creditorsOf 5 := Or.inl ⟨_, _, rfl⟩
def y_P_owedTo : MethodName := ⟨"LandRegister$Parcel", "owedTo", "(I)J"⟩
abbrev b_P_owedTo : ByteArray := prog_7_method_10_code
abbrev hd_P_owedTo : Cond := .code y_P_owedTo b_P_owedTo 5 (some .long)
set_option maxRecDepth 100000 in
theorem hdT_P_owedTo : hd_P_owedTo ∈ TT := tt_in 715 rfl rfl
theorem hdO_P_owedTo : HdOk hd_P_owedTo y_P_owedTo 5 := Or.inl ⟨_, _, rfl⟩
def y_P_hasSharesOf : MethodName := ⟨"LandRegister$Parcel", "hasSharesOf", "(LLandRegister$Parcel;)Z"⟩
abbrev b_P_hasSharesOf : ByteArray := prog_7_method_11_code
abbrev hd_P_hasSharesOf : Cond := .code y_P_hasSharesOf b_P_hasSharesOf 3 (some .boolean)
set_option maxRecDepth 100000 in
theorem hdT_P_hasSharesOf : hd_P_hasSharesOf ∈ TT := tt_in 298 rfl rfl
theorem hdO_P_hasSharesOf : HdOk hd_P_hasSharesOf y_P_hasSharesOf 3 := Or.inl ⟨_, _, rfl⟩
def y_P_hasMortgagesOf : MethodName := ⟨"LandRegister$Parcel", "hasMortgagesOf", "(LLandRegister$Parcel;)Z"⟩
abbrev b_P_hasMortgagesOf : ByteArray := prog_7_method_12_code
abbrev hd_P_hasMortgagesOf : Cond := .code y_P_hasMortgagesOf b_P_hasMortgagesOf 3 (some .boolean)
set_option maxRecDepth 100000 in
theorem hdT_P_hasMortgagesOf : hd_P_hasMortgagesOf ∈ TT := tt_in 302 rfl rfl
theorem hdO_P_hasMortgagesOf : HdOk hd_P_hasMortgagesOf y_P_hasMortgagesOf 3 := Or.inl ⟨_, _, rfl⟩
def y_Fo_init : MethodName := ⟨"LandRegister$Found", "<init>", "(II)V"⟩
abbrev b_Fo_init : ByteArray := prog_4_method_1_code
abbrev hd_Fo_init : Cond := .code y_Fo_init b_Fo_init 3 none
set_option maxRecDepth 100000 in
theorem hdT_Fo_init : hd_Fo_init ∈ TT := tt_in 232 rfl rfl
theorem hdO_Fo_init : HdOk hd_Fo_init y_Fo_init 3 := Or.inl ⟨_, _, rfl⟩
def y_Fo_hindrance : MethodName := ⟨"LandRegister$Found", "hindrance", "([LLandRegister$Parcel;)I"⟩
abbrev b_Fo_hindrance : ByteArray := prog_4_method_2_code
abbrev hd_Fo_hindrance : Cond := .code y_Fo_hindrance b_Fo_hindrance 2 (some .int)
set_option maxRecDepth 100000 in
theorem hdT_Fo_hindrance : hd_Fo_hindrance ∈ TT := tt_in 287 rfl rfl
theorem hdO_Fo_hindrance : HdOk hd_Fo_hindrance y_Fo_hindrance 2 := Or.inl ⟨_, _, rfl⟩
def y_Fo_carryOut : MethodName := ⟨"LandRegister$Found", "carryOut", "([LLandRegister$Parcel;)V"⟩
abbrev b_Fo_carryOut : ByteArray := prog_4_method_3_code
abbrev hd_Fo_carryOut : Cond := .code y_Fo_carryOut b_Fo_carryOut 2 none
set_option maxRecDepth 100000 in
theorem hdT_Fo_carryOut : hd_Fo_carryOut ∈ TT := tt_in 376 rfl rfl
theorem hdO_Fo_carryOut : HdOk hd_Fo_carryOut y_Fo_carryOut 2 := Or.inl ⟨_, _, rfl⟩
def y_Se_init : MethodName := ⟨"LandRegister$Sell", "<init>", "(IIIJ)V"⟩
abbrev b_Se_init : ByteArray := prog_11_method_1_code
abbrev hd_Se_init : Cond := .code y_Se_init b_Se_init 6 none
set_option maxRecDepth 100000 in
theorem hdT_Se_init : hd_Se_init ∈ TT := tt_in 448 rfl rfl
theorem hdO_Se_init : HdOk hd_Se_init y_Se_init 6 := Or.inl ⟨_, _, rfl⟩
def y_Se_hindrance : MethodName := ⟨"LandRegister$Sell", "hindrance", "([LLandRegister$Parcel;)I"⟩
abbrev b_Se_hindrance : ByteArray := prog_11_method_2_code
abbrev hd_Se_hindrance : Cond := .code y_Se_hindrance b_Se_hindrance 5 (some .int)
set_option maxRecDepth 100000 in
theorem hdT_Se_hindrance : hd_Se_hindrance ∈ TT := tt_in 331 rfl rfl
theorem hdO_Se_hindrance : HdOk hd_Se_hindrance y_Se_hindrance 5 := Or.inl ⟨_, _, rfl⟩
def y_Se_carryOut : MethodName := ⟨"LandRegister$Sell", "carryOut", "([LLandRegister$Parcel;)V"⟩
abbrev b_Se_carryOut : ByteArray := prog_11_method_3_code
abbrev hd_Se_carryOut : Cond := .code y_Se_carryOut b_Se_carryOut 3 none
set_option maxRecDepth 100000 in
theorem hdT_Se_carryOut : hd_Se_carryOut ∈ TT := tt_in 419 rfl rfl
theorem hdO_Se_carryOut : HdOk hd_Se_carryOut y_Se_carryOut 3 := Or.inl ⟨_, _, rfl⟩
def y_Pl_init : MethodName := ⟨"LandRegister$Pledge", "<init>", "(III)V"⟩
abbrev b_Pl_init : ByteArray := prog_8_method_1_code
abbrev hd_Pl_init : Cond := .code y_Pl_init b_Pl_init 4 none
set_option maxRecDepth 100000 in
theorem hdT_Pl_init : hd_Pl_init ∈ TT := tt_in 478 rfl rfl
theorem hdO_Pl_init : HdOk hd_Pl_init y_Pl_init 4 := Or.inl ⟨_, _, rfl⟩
def y_Pl_hindrance : MethodName := ⟨"LandRegister$Pledge", "hindrance", "([LLandRegister$Parcel;)I"⟩
abbrev b_Pl_hindrance : ByteArray := prog_8_method_2_code
abbrev hd_Pl_hindrance : Cond := .code y_Pl_hindrance b_Pl_hindrance 4 (some .int)
set_option maxRecDepth 100000 in
theorem hdT_Pl_hindrance : hd_Pl_hindrance ∈ TT := tt_in 305 rfl rfl
theorem hdO_Pl_hindrance : HdOk hd_Pl_hindrance y_Pl_hindrance 4 := Or.inl ⟨_, _, rfl⟩
def y_Pl_carryOut : MethodName := ⟨"LandRegister$Pledge", "carryOut", "([LLandRegister$Parcel;)V"⟩
abbrev b_Pl_carryOut : ByteArray := prog_8_method_3_code
abbrev hd_Pl_carryOut : Cond := .code y_Pl_carryOut b_Pl_carryOut 3 none
set_option maxRecDepth 100000 in
theorem hdT_Pl_carryOut : hd_Pl_carryOut ∈ TT := tt_in 400 rfl rfl
theorem hdO_Pl_carryOut : HdOk hd_Pl_carryOut y_Pl_carryOut 3 := Or.inl ⟨_, _, rfl⟩
def y_Re_init : MethodName := ⟨"LandRegister$Rerank", "<init>", "(IIII)V"⟩
abbrev b_Re_init : ByteArray := prog_10_method_1_code
abbrev hd_Re_init : Cond := .code y_Re_init b_Re_init 5 none
set_option maxRecDepth 100000 in
theorem hdT_Re_init : hd_Re_init ∈ TT := tt_in 508 rfl rfl
theorem hdO_Re_init : HdOk hd_Re_init y_Re_init 5 := Or.inl ⟨_, _, rfl⟩
def y_Re_hindrance : MethodName := ⟨"LandRegister$Rerank", "hindrance", "([LLandRegister$Parcel;)I"⟩
abbrev b_Re_hindrance : ByteArray := prog_10_method_2_code
abbrev hd_Re_hindrance : Cond := .code y_Re_hindrance b_Re_hindrance 4 (some .int)
set_option maxRecDepth 100000 in
theorem hdT_Re_hindrance : hd_Re_hindrance ∈ TT := tt_in 315 rfl rfl
theorem hdO_Re_hindrance : HdOk hd_Re_hindrance y_Re_hindrance 4 := Or.inl ⟨_, _, rfl⟩
def y_Re_consentsNeeded : MethodName := ⟨"LandRegister$Rerank", "consentsNeeded", "(LLandRegister$Parcel;)I"⟩
abbrev b_Re_consentsNeeded : ByteArray := prog_10_method_3_code
abbrev hd_Re_consentsNeeded : Cond := .code y_Re_consentsNeeded b_Re_consentsNeeded 3 (some .int)
set_option maxRecDepth 100000 in
theorem hdT_Re_consentsNeeded : hd_Re_consentsNeeded ∈ TT := tt_in 324 rfl rfl
theorem hdO_Re_consentsNeeded : HdOk hd_Re_consentsNeeded y_Re_consentsNeeded 3 := Or.inl ⟨_, _, rfl⟩
def y_Re_carryOut : MethodName := ⟨"LandRegister$Rerank", "carryOut", "([LLandRegister$Parcel;)V"⟩
abbrev b_Re_carryOut : ByteArray := prog_10_method_4_code
abbrev hd_Re_carryOut : Cond := .code y_Re_carryOut b_Re_carryOut 5 none
set_option maxRecDepth 100000 in
theorem hdT_Re_carryOut : hd_Re_carryOut ∈ TT := tt_in 414 rfl rfl
theorem hdO_Re_carryOut : HdOk hd_Re_carryOut y_Re_carryOut 5 := Or.inl ⟨_, _, rfl⟩
def y_Rl_init : MethodName := ⟨"LandRegister$Release", "<init>", "(II)V"⟩
abbrev b_Rl_init : ByteArray := prog_9_method_1_code
abbrev hd_Rl_init : Cond := .code y_Rl_init b_Rl_init 3 none
set_option maxRecDepth 100000 in
theorem hdT_Rl_init : hd_Rl_init ∈ TT := tt_in 538 rfl rfl
theorem hdO_Rl_init : HdOk hd_Rl_init y_Rl_init 3 := Or.inl ⟨_, _, rfl⟩
def y_Rl_hindrance : MethodName := ⟨"LandRegister$Release", "hindrance", "([LLandRegister$Parcel;)I"⟩
abbrev b_Rl_hindrance : ByteArray := prog_9_method_2_code
abbrev hd_Rl_hindrance : Cond := .code y_Rl_hindrance b_Rl_hindrance 3 (some .int)
set_option maxRecDepth 100000 in
theorem hdT_Rl_hindrance : hd_Rl_hindrance ∈ TT := tt_in 312 rfl rfl
theorem hdO_Rl_hindrance : HdOk hd_Rl_hindrance y_Rl_hindrance 3 := Or.inl ⟨_, _, rfl⟩
def y_Rl_carryOut : MethodName := ⟨"LandRegister$Release", "carryOut", "([LLandRegister$Parcel;)V"⟩
abbrev b_Rl_carryOut : ByteArray := prog_9_method_3_code
abbrev hd_Rl_carryOut : Cond := .code y_Rl_carryOut b_Rl_carryOut 2 none
set_option maxRecDepth 100000 in
theorem hdT_Rl_carryOut : hd_Rl_carryOut ∈ TT := tt_in 407 rfl rfl
theorem hdO_Rl_carryOut : HdOk hd_Rl_carryOut y_Rl_carryOut 2 := Or.inl ⟨_, _, rfl⟩
def y_Ca_init : MethodName := ⟨"LandRegister$Caution", "<init>", "(II)V"⟩
abbrev b_Ca_init : ByteArray := prog_2_method_1_code
abbrev hd_Ca_init : Cond := .code y_Ca_init b_Ca_init 3 none
set_option maxRecDepth 100000 in
theorem hdT_Ca_init : hd_Ca_init ∈ TT := tt_in 562 rfl rfl
theorem hdO_Ca_init : HdOk hd_Ca_init y_Ca_init 3 := Or.inl ⟨_, _, rfl⟩
def y_Ca_hindrance : MethodName := ⟨"LandRegister$Caution", "hindrance", "([LLandRegister$Parcel;)I"⟩
abbrev b_Ca_hindrance : ByteArray := prog_2_method_2_code
abbrev hd_Ca_hindrance : Cond := .code y_Ca_hindrance b_Ca_hindrance 3 (some .int)
set_option maxRecDepth 100000 in
theorem hdT_Ca_hindrance : hd_Ca_hindrance ∈ TT := tt_in 280 rfl rfl
theorem hdO_Ca_hindrance : HdOk hd_Ca_hindrance y_Ca_hindrance 3 := Or.inl ⟨_, _, rfl⟩
def y_Ca_carryOut : MethodName := ⟨"LandRegister$Caution", "carryOut", "([LLandRegister$Parcel;)V"⟩
abbrev b_Ca_carryOut : ByteArray := prog_2_method_3_code
abbrev hd_Ca_carryOut : Cond := .code y_Ca_carryOut b_Ca_carryOut 2 none
set_option maxRecDepth 100000 in
theorem hdT_Ca_carryOut : hd_Ca_carryOut ∈ TT := tt_in 373 rfl rfl
theorem hdO_Ca_carryOut : HdOk hd_Ca_carryOut y_Ca_carryOut 2 := Or.inl ⟨_, _, rfl⟩
def y_Li_init : MethodName := ⟨"LandRegister$Lift", "<init>", "(II)V"⟩
abbrev b_Li_init : ByteArray := prog_5_method_1_code
abbrev hd_Li_init : Cond := .code y_Li_init b_Li_init 3 none
set_option maxRecDepth 100000 in
theorem hdT_Li_init : hd_Li_init ∈ TT := tt_in 586 rfl rfl
theorem hdO_Li_init : HdOk hd_Li_init y_Li_init 3 := Or.inl ⟨_, _, rfl⟩
def y_Li_hindrance : MethodName := ⟨"LandRegister$Lift", "hindrance", "([LLandRegister$Parcel;)I"⟩
abbrev b_Li_hindrance : ByteArray := prog_5_method_2_code
abbrev hd_Li_hindrance : Cond := .code y_Li_hindrance b_Li_hindrance 3 (some .int)
set_option maxRecDepth 100000 in
theorem hdT_Li_hindrance : hd_Li_hindrance ∈ TT := tt_in 290 rfl rfl
theorem hdO_Li_hindrance : HdOk hd_Li_hindrance y_Li_hindrance 3 := Or.inl ⟨_, _, rfl⟩
def y_Li_carryOut : MethodName := ⟨"LandRegister$Lift", "carryOut", "([LLandRegister$Parcel;)V"⟩
abbrev b_Li_carryOut : ByteArray := prog_5_method_3_code
abbrev hd_Li_carryOut : Cond := .code y_Li_carryOut b_Li_carryOut 2 none
set_option maxRecDepth 100000 in
theorem hdT_Li_carryOut : hd_Li_carryOut ∈ TT := tt_in 387 rfl rfl
theorem hdO_Li_carryOut : HdOk hd_Li_carryOut y_Li_carryOut 2 := Or.inl ⟨_, _, rfl⟩
def y_Sp_init : MethodName := ⟨"LandRegister$Split", "<init>", "(II)V"⟩
abbrev b_Sp_init : ByteArray := prog_12_method_1_code
abbrev hd_Sp_init : Cond := .code y_Sp_init b_Sp_init 3 none
set_option maxRecDepth 100000 in
theorem hdT_Sp_init : hd_Sp_init ∈ TT := tt_in 610 rfl rfl
theorem hdO_Sp_init : HdOk hd_Sp_init y_Sp_init 3 := Or.inl ⟨_, _, rfl⟩
def y_Sp_hindrance : MethodName := ⟨"LandRegister$Split", "hindrance", "([LLandRegister$Parcel;)I"⟩
abbrev b_Sp_hindrance : ByteArray := prog_12_method_2_code
abbrev hd_Sp_hindrance : Cond := .code y_Sp_hindrance b_Sp_hindrance 4 (some .int)
set_option maxRecDepth 100000 in
theorem hdT_Sp_hindrance : hd_Sp_hindrance ∈ TT := tt_in 366 rfl rfl
theorem hdO_Sp_hindrance : HdOk hd_Sp_hindrance y_Sp_hindrance 4 := Or.inl ⟨_, _, rfl⟩
def y_Sp_carryOut : MethodName := ⟨"LandRegister$Split", "carryOut", "([LLandRegister$Parcel;)V"⟩
abbrev b_Sp_carryOut : ByteArray := prog_12_method_3_code
abbrev hd_Sp_carryOut : Cond := .code y_Sp_carryOut b_Sp_carryOut 5 none
set_option maxRecDepth 100000 in
theorem hdT_Sp_carryOut : hd_Sp_carryOut ∈ TT := tt_in 422 rfl rfl
theorem hdO_Sp_carryOut : HdOk hd_Sp_carryOut y_Sp_carryOut 5 := Or.inl ⟨_, _, rfl⟩
def y_Me_init : MethodName := ⟨"LandRegister$Merge", "<init>", "(II)V"⟩
abbrev b_Me_init : ByteArray := prog_6_method_1_code
abbrev hd_Me_init : Cond := .code y_Me_init b_Me_init 3 none
set_option maxRecDepth 100000 in
theorem hdT_Me_init : hd_Me_init ∈ TT := tt_in 634 rfl rfl
theorem hdO_Me_init : HdOk hd_Me_init y_Me_init 3 := Or.inl ⟨_, _, rfl⟩
def y_Me_hindrance : MethodName := ⟨"LandRegister$Merge", "hindrance", "([LLandRegister$Parcel;)I"⟩
abbrev b_Me_hindrance : ByteArray := prog_6_method_2_code
abbrev hd_Me_hindrance : Cond := .code y_Me_hindrance b_Me_hindrance 4 (some .int)
set_option maxRecDepth 100000 in
theorem hdT_Me_hindrance : hd_Me_hindrance ∈ TT := tt_in 294 rfl rfl
theorem hdO_Me_hindrance : HdOk hd_Me_hindrance y_Me_hindrance 4 := Or.inl ⟨_, _, rfl⟩
def y_Me_carryOut : MethodName := ⟨"LandRegister$Merge", "carryOut", "([LLandRegister$Parcel;)V"⟩
abbrev b_Me_carryOut : ByteArray := prog_6_method_3_code
abbrev hd_Me_carryOut : Cond := .code y_Me_carryOut b_Me_carryOut 5 none
set_option maxRecDepth 100000 in
theorem hdT_Me_carryOut : hd_Me_carryOut ∈ TT := tt_in 390 rfl rfl
theorem hdO_Me_carryOut : HdOk hd_Me_carryOut y_Me_carryOut 5 := Or.inl ⟨_, _, rfl⟩
def y_De_init : MethodName := ⟨"LandRegister$Deed", "<init>", "()V"⟩
abbrev b_De_init : ByteArray := prog_3_method_1_code
abbrev hd_De_init : Cond := .code y_De_init b_De_init 1 none
set_option maxRecDepth 100000 in
theorem hdT_De_init : hd_De_init ∈ TT := tt_in 235 rfl rfl
theorem hdO_De_init : HdOk hd_De_init y_De_init 1 := Or.inl ⟨_, _, rfl⟩
def y_M_init : MethodName := ⟨"LandRegisterModel", "<init>", "()V"⟩
abbrev b_M_init : ByteArray := prog_14_method_1_code
abbrev hd_M_init : Cond := .code y_M_init b_M_init 1 none
set_option maxRecDepth 100000 in
theorem hdT_M_init : hd_M_init ∈ TT := tt_in 744 rfl rfl
theorem hdO_M_init : HdOk hd_M_init y_M_init 1 := Or.inl ⟨_, _, rfl⟩
def y_M_thrown : MethodName := ⟨"LandRegisterModel", "thrown", "()I"⟩
abbrev b_M_thrown : ByteArray := prog_14_method_2_code
abbrev hd_M_thrown : Cond := .code y_M_thrown b_M_thrown 1 (some .int)
set_option maxRecDepth 100000 in
theorem hdT_M_thrown : hd_M_thrown ∈ TT := tt_in 873 rfl rfl
theorem hdO_M_thrown : HdOk hd_M_thrown y_M_thrown 1 := Or.inl ⟨_, _, rfl⟩
def y_M_look : MethodName := ⟨"LandRegisterModel", "look", "(II)V"⟩
abbrev b_M_look : ByteArray := prog_14_method_3_code
abbrev hd_M_look : Cond := .code y_M_look b_M_look 5 none
set_option maxRecDepth 100000 in
theorem hdT_M_look : hd_M_look ∈ TT := tt_in 749 rfl rfl
theorem hdO_M_look : HdOk hd_M_look y_M_look 5 := Or.inl ⟨_, _, rfl⟩
def y_M_isWarned : MethodName := ⟨"LandRegisterModel", "isWarned", "(I)Z"⟩
abbrev b_M_isWarned : ByteArray := prog_14_method_4_code
abbrev hd_M_isWarned : Cond := .code y_M_isWarned b_M_isWarned 2 (some .boolean)
set_option maxRecDepth 100000 in
theorem hdT_M_isWarned : hd_M_isWarned ∈ TT := tt_in 757 rfl rfl
theorem hdO_M_isWarned : HdOk hd_M_isWarned y_M_isWarned 2 := Or.inl ⟨_, _, rfl⟩
def y_M_reason : MethodName := ⟨"LandRegisterModel", "reason", "(I)I"⟩
abbrev b_M_reason : ByteArray := prog_14_method_5_code
abbrev hd_M_reason : Cond := .code y_M_reason b_M_reason 5 (some .int)
set_option maxRecDepth 100000 in
theorem hdT_M_reason : hd_M_reason ∈ TT := tt_in 753 rfl rfl
theorem hdO_M_reason : HdOk hd_M_reason y_M_reason 5 := Or.inl ⟨_, _, rfl⟩
def y_M_divisor : MethodName := ⟨"LandRegisterModel", "divisor", "(JJ)J"⟩
abbrev b_M_divisor : ByteArray := prog_14_method_6_code
abbrev hd_M_divisor : Cond := .code y_M_divisor b_M_divisor 10 (some .long)
set_option maxRecDepth 100000 in
theorem hdT_M_divisor : hd_M_divisor ∈ TT := tt_in 767 rfl rfl
theorem hdO_M_divisor : HdOk hd_M_divisor y_M_divisor 10 := Or.inl ⟨_, _, rfl⟩
def y_M_lowest : MethodName := ⟨"LandRegisterModel", "lowest", "(JJ)J"⟩
abbrev b_M_lowest : ByteArray := prog_14_method_7_code
abbrev hd_M_lowest : Cond := .code y_M_lowest b_M_lowest 4 (some .long)
set_option maxRecDepth 100000 in
theorem hdT_M_lowest : hd_M_lowest ∈ TT := tt_in 764 rfl rfl
theorem hdO_M_lowest : HdOk hd_M_lowest y_M_lowest 4 := Or.inl ⟨_, _, rfl⟩
def y_M_ofSale : MethodName := ⟨"LandRegisterModel", "ofSale", "(I)I"⟩
abbrev b_M_ofSale : ByteArray := prog_14_method_8_code
abbrev hd_M_ofSale : Cond := .code y_M_ofSale b_M_ofSale 14 (some .int)
set_option maxRecDepth 100000 in
theorem hdT_M_ofSale : hd_M_ofSale ∈ TT := tt_in 761 rfl rfl
theorem hdO_M_ofSale : HdOk hd_M_ofSale y_M_ofSale 14 := Or.inl ⟨_, _, rfl⟩
def y_M_agreed : MethodName := ⟨"LandRegisterModel", "agreed", "(I)Z"⟩
abbrev b_M_agreed : ByteArray := prog_14_method_9_code
abbrev hd_M_agreed : Cond := .code y_M_agreed b_M_agreed 11 (some .boolean)
set_option maxRecDepth 100000 in
theorem hdT_M_agreed : hd_M_agreed ∈ TT := tt_in 772 rfl rfl
theorem hdO_M_agreed : HdOk hd_M_agreed y_M_agreed 11 := Or.inl ⟨_, _, rfl⟩
def y_M_sameShares : MethodName := ⟨"LandRegisterModel", "sameShares", "(II)Z"⟩
abbrev b_M_sameShares : ByteArray := prog_14_method_10_code
abbrev hd_M_sameShares : Cond := .code y_M_sameShares b_M_sameShares 5 (some .boolean)
set_option maxRecDepth 100000 in
theorem hdT_M_sameShares : hd_M_sameShares ∈ TT := tt_in 776 rfl rfl
theorem hdO_M_sameShares : HdOk hd_M_sameShares y_M_sameShares 5 := Or.inl ⟨_, _, rfl⟩
def y_M_sameMortgages : MethodName := ⟨"LandRegisterModel", "sameMortgages", "(II)Z"⟩
abbrev b_M_sameMortgages : ByteArray := prog_14_method_11_code
abbrev hd_M_sameMortgages : Cond := .code y_M_sameMortgages b_M_sameMortgages 5 (some .boolean)
set_option maxRecDepth 100000 in
theorem hdT_M_sameMortgages : hd_M_sameMortgages ∈ TT := tt_in 780 rfl rfl
theorem hdO_M_sameMortgages : HdOk hd_M_sameMortgages y_M_sameMortgages 5 := Or.inl ⟨_, _, rfl⟩
def y_M_setShare : MethodName := ⟨"LandRegisterModel", "setShare", "(IJJ)V"⟩
abbrev b_M_setShare : ByteArray := prog_14_method_12_code
abbrev hd_M_setShare : Cond := .code y_M_setShare b_M_setShare 8 none
set_option maxRecDepth 100000 in
theorem hdT_M_setShare : hd_M_setShare ∈ TT := tt_in 796 rfl rfl
theorem hdO_M_setShare : HdOk hd_M_setShare y_M_setShare 8 := Or.inl ⟨_, _, rfl⟩
def y_M_make : MethodName := ⟨"LandRegisterModel", "make", "(IJI)V"⟩
abbrev b_M_make : ByteArray := prog_14_method_13_code
abbrev hd_M_make : Cond := .code y_M_make b_M_make 6 none
set_option maxRecDepth 100000 in
theorem hdT_M_make : hd_M_make ∈ TT := tt_in 788 rfl rfl
theorem hdO_M_make : HdOk hd_M_make y_M_make 6 := Or.inl ⟨_, _, rfl⟩
def y_M_exchange : MethodName := ⟨"LandRegisterModel", "exchange", "(II)V"⟩
abbrev b_M_exchange : ByteArray := prog_14_method_14_code
abbrev hd_M_exchange : Cond := .code y_M_exchange b_M_exchange 5 none
set_option maxRecDepth 100000 in
theorem hdT_M_exchange : hd_M_exchange ∈ TT := tt_in 804 rfl rfl
theorem hdO_M_exchange : HdOk hd_M_exchange y_M_exchange 5 := Or.inl ⟨_, _, rfl⟩
def y_M_carry : MethodName := ⟨"LandRegisterModel", "carry", "(III)V"⟩
abbrev b_M_carry : ByteArray := prog_14_method_15_code
abbrev hd_M_carry : Cond := .code y_M_carry b_M_carry 5 none
set_option maxRecDepth 100000 in
theorem hdT_M_carry : hd_M_carry ∈ TT := tt_in 800 rfl rfl
theorem hdO_M_carry : HdOk hd_M_carry y_M_carry 5 := Or.inl ⟨_, _, rfl⟩
def y_M_sells : MethodName := ⟨"LandRegisterModel", "sells", "(I)V"⟩
abbrev b_M_sells : ByteArray := prog_14_method_16_code
abbrev hd_M_sells : Cond := .code y_M_sells b_M_sells 9 none
set_option maxRecDepth 100000 in
theorem hdT_M_sells : hd_M_sells ∈ TT := tt_in 792 rfl rfl
theorem hdO_M_sells : HdOk hd_M_sells y_M_sells 9 := Or.inl ⟨_, _, rfl⟩
def y_M_does : MethodName := ⟨"LandRegisterModel", "does", "(I)V"⟩
abbrev b_M_does : ByteArray := prog_14_method_17_code
abbrev hd_M_does : Cond := .code y_M_does b_M_does 3 none
set_option maxRecDepth 100000 in
theorem hdT_M_does : hd_M_does ∈ TT := tt_in 784 rfl rfl
theorem hdO_M_does : HdOk hd_M_does y_M_does 3 := Or.inl ⟨_, _, rfl⟩
def y_M_noPerson : MethodName := ⟨"LandRegisterModel", "noPerson", "(I)Z"⟩
abbrev b_M_noPerson : ByteArray := prog_14_method_18_code
abbrev hd_M_noPerson : Cond := .code y_M_noPerson b_M_noPerson 1 (some .boolean)
set_option maxRecDepth 100000 in
theorem hdT_M_noPerson : hd_M_noPerson ∈ TT := tt_in 884 rfl rfl
theorem hdO_M_noPerson : HdOk hd_M_noPerson y_M_noPerson 1 := Or.inl ⟨_, _, rfl⟩
def y_M_noParcel : MethodName := ⟨"LandRegisterModel", "noParcel", "(I)Z"⟩
abbrev b_M_noParcel : ByteArray := prog_14_method_19_code
abbrev hd_M_noParcel : Cond := .code y_M_noParcel b_M_noParcel 1 (some .boolean)
set_option maxRecDepth 100000 in
theorem hdT_M_noParcel : hd_M_noParcel ∈ TT := tt_in 896 rfl rfl
theorem hdO_M_noParcel : HdOk hd_M_noParcel y_M_noParcel 1 := Or.inl ⟨_, _, rfl⟩
def y_M_noAmount : MethodName := ⟨"LandRegisterModel", "noAmount", "(I)Z"⟩
abbrev b_M_noAmount : ByteArray := prog_14_method_20_code
abbrev hd_M_noAmount : Cond := .code y_M_noAmount b_M_noAmount 1 (some .boolean)
set_option maxRecDepth 100000 in
theorem hdT_M_noAmount : hd_M_noAmount ∈ TT := tt_in 880 rfl rfl
theorem hdO_M_noAmount : HdOk hd_M_noAmount y_M_noAmount 1 := Or.inl ⟨_, _, rfl⟩
def y_M_file : MethodName := ⟨"LandRegisterModel", "file", "(ZIIIIII)I"⟩
abbrev b_M_file : ByteArray := prog_14_method_21_code
abbrev hd_M_file : Cond := .code y_M_file b_M_file 8 (some .int)
set_option maxRecDepth 100000 in
theorem hdT_M_file : hd_M_file ∈ TT := tt_in 888 rfl rfl
theorem hdO_M_file : HdOk hd_M_file y_M_file 8 := Or.inl ⟨_, _, rfl⟩
def y_M_found : MethodName := ⟨"LandRegisterModel", "found", "(III)I"⟩
abbrev b_M_found : ByteArray := prog_14_method_22_code
abbrev hd_M_found : Cond := .code y_M_found b_M_found 4 (some .int)
set_option maxRecDepth 100000 in
theorem hdT_M_found : hd_M_found ∈ TT := tt_in 877 rfl rfl
theorem hdO_M_found : HdOk hd_M_found y_M_found 4 := Or.inl ⟨_, _, rfl⟩
def y_M_sell : MethodName := ⟨"LandRegisterModel", "sell", "(IIIIJ)I"⟩
abbrev b_M_sell : ByteArray := prog_14_method_23_code
abbrev hd_M_sell : Cond := .code y_M_sell b_M_sell 12 (some .int)
set_option maxRecDepth 100000 in
theorem hdT_M_sell : hd_M_sell ∈ TT := tt_in 892 rfl rfl
theorem hdO_M_sell : HdOk hd_M_sell y_M_sell 12 := Or.inl ⟨_, _, rfl⟩
def y_M_pledge : MethodName := ⟨"LandRegisterModel", "pledge", "(IIII)I"⟩
abbrev b_M_pledge : ByteArray := prog_14_method_24_code
abbrev hd_M_pledge : Cond := .code y_M_pledge b_M_pledge 5 (some .int)
set_option maxRecDepth 100000 in
theorem hdT_M_pledge : hd_M_pledge ∈ TT := tt_in 900 rfl rfl
theorem hdO_M_pledge : HdOk hd_M_pledge y_M_pledge 5 := Or.inl ⟨_, _, rfl⟩
def y_M_rerank : MethodName := ⟨"LandRegisterModel", "rerank", "(IIIII)I"⟩
abbrev b_M_rerank : ByteArray := prog_14_method_25_code
abbrev hd_M_rerank : Cond := .code y_M_rerank b_M_rerank 6 (some .int)
set_option maxRecDepth 100000 in
theorem hdT_M_rerank : hd_M_rerank ∈ TT := tt_in 904 rfl rfl
theorem hdO_M_rerank : HdOk hd_M_rerank y_M_rerank 6 := Or.inl ⟨_, _, rfl⟩
def y_M_release : MethodName := ⟨"LandRegisterModel", "release", "(III)I"⟩
abbrev b_M_release : ByteArray := prog_14_method_26_code
abbrev hd_M_release : Cond := .code y_M_release b_M_release 4 (some .int)
set_option maxRecDepth 100000 in
theorem hdT_M_release : hd_M_release ∈ TT := tt_in 908 rfl rfl
theorem hdO_M_release : HdOk hd_M_release y_M_release 4 := Or.inl ⟨_, _, rfl⟩
def y_M_caution : MethodName := ⟨"LandRegisterModel", "caution", "(III)I"⟩
abbrev b_M_caution : ByteArray := prog_14_method_27_code
abbrev hd_M_caution : Cond := .code y_M_caution b_M_caution 4 (some .int)
set_option maxRecDepth 100000 in
theorem hdT_M_caution : hd_M_caution ∈ TT := tt_in 912 rfl rfl
theorem hdO_M_caution : HdOk hd_M_caution y_M_caution 4 := Or.inl ⟨_, _, rfl⟩
def y_M_lift : MethodName := ⟨"LandRegisterModel", "lift", "(III)I"⟩
abbrev b_M_lift : ByteArray := prog_14_method_28_code
abbrev hd_M_lift : Cond := .code y_M_lift b_M_lift 4 (some .int)
set_option maxRecDepth 100000 in
theorem hdT_M_lift : hd_M_lift ∈ TT := tt_in 916 rfl rfl
theorem hdO_M_lift : HdOk hd_M_lift y_M_lift 4 := Or.inl ⟨_, _, rfl⟩
def y_M_split : MethodName := ⟨"LandRegisterModel", "split", "(III)I"⟩
abbrev b_M_split : ByteArray := prog_14_method_29_code
abbrev hd_M_split : Cond := .code y_M_split b_M_split 4 (some .int)
set_option maxRecDepth 100000 in
theorem hdT_M_split : hd_M_split ∈ TT := tt_in 920 rfl rfl
theorem hdO_M_split : HdOk hd_M_split y_M_split 4 := Or.inl ⟨_, _, rfl⟩
def y_M_merge : MethodName := ⟨"LandRegisterModel", "merge", "(III)I"⟩
abbrev b_M_merge : ByteArray := prog_14_method_30_code
abbrev hd_M_merge : Cond := .code y_M_merge b_M_merge 4 (some .int)
set_option maxRecDepth 100000 in
theorem hdT_M_merge : hd_M_merge ∈ TT := tt_in 924 rfl rfl
theorem hdO_M_merge : HdOk hd_M_merge y_M_merge 4 := Or.inl ⟨_, _, rfl⟩
def y_M_day : MethodName := ⟨"LandRegisterModel", "day", "()I"⟩
abbrev b_M_day : ByteArray := prog_14_method_31_code
abbrev hd_M_day : Cond := .code y_M_day b_M_day 1 (some .int)
set_option maxRecDepth 100000 in
theorem hdT_M_day : hd_M_day ∈ TT := tt_in 928 rfl rfl
theorem hdO_M_day : HdOk hd_M_day y_M_day 1 := Or.inl ⟨_, _, rfl⟩
def y_M_view : MethodName := ⟨"LandRegisterModel", "view", "(II)I"⟩
abbrev b_M_view : ByteArray := prog_14_method_32_code
abbrev hd_M_view : Cond := .code y_M_view b_M_view 5 (some .int)
set_option maxRecDepth 100000 in
theorem hdT_M_view : hd_M_view ∈ TT := tt_in 932 rfl rfl
theorem hdO_M_view : HdOk hd_M_view y_M_view 5 := Or.inl ⟨_, _, rfl⟩
def y_M_parcel : MethodName := ⟨"LandRegisterModel", "parcel", "(I)I"⟩
abbrev b_M_parcel : ByteArray := prog_14_method_33_code
abbrev hd_M_parcel : Cond := .code y_M_parcel b_M_parcel 4 (some .int)
set_option maxRecDepth 100000 in
theorem hdT_M_parcel : hd_M_parcel ∈ TT := tt_in 936 rfl rfl
theorem hdO_M_parcel : HdOk hd_M_parcel y_M_parcel 4 := Or.inl ⟨_, _, rfl⟩
def y_M_area : MethodName := ⟨"LandRegisterModel", "area", "(I)J"⟩
abbrev b_M_area : ByteArray := prog_14_method_34_code
abbrev hd_M_area : Cond := .code y_M_area b_M_area 2 (some .long)
set_option maxRecDepth 100000 in
theorem hdT_M_area : hd_M_area ∈ TT := tt_in 940 rfl rfl
theorem hdO_M_area : HdOk hd_M_area y_M_area 2 := Or.inl ⟨_, _, rfl⟩
def y_M_share : MethodName := ⟨"LandRegisterModel", "share", "(II)J"⟩
abbrev b_M_share : ByteArray := prog_14_method_35_code
abbrev hd_M_share : Cond := .code y_M_share b_M_share 3 (some .long)
set_option maxRecDepth 100000 in
theorem hdT_M_share : hd_M_share ∈ TT := tt_in 944 rfl rfl
theorem hdO_M_share : HdOk hd_M_share y_M_share 3 := Or.inl ⟨_, _, rfl⟩
def y_M_mortgage : MethodName := ⟨"LandRegisterModel", "mortgage", "(III)I"⟩
abbrev b_M_mortgage : ByteArray := prog_14_method_36_code
abbrev hd_M_mortgage : Cond := .code y_M_mortgage b_M_mortgage 5 (some .int)
set_option maxRecDepth 100000 in
theorem hdT_M_mortgage : hd_M_mortgage ∈ TT := tt_in 948 rfl rfl
theorem hdO_M_mortgage : HdOk hd_M_mortgage y_M_mortgage 5 := Or.inl ⟨_, _, rfl⟩
def y_M_cautions : MethodName := ⟨"LandRegisterModel", "cautions", "(I)I"⟩
abbrev b_M_cautions : ByteArray := prog_14_method_37_code
abbrev hd_M_cautions : Cond := .code y_M_cautions b_M_cautions 2 (some .int)
set_option maxRecDepth 100000 in
theorem hdT_M_cautions : hd_M_cautions ∈ TT := tt_in 952 rfl rfl
theorem hdO_M_cautions : HdOk hd_M_cautions y_M_cautions 2 := Or.inl ⟨_, _, rfl⟩
def y_M_origin : MethodName := ⟨"LandRegisterModel", "origin", "(II)I"⟩
abbrev b_M_origin : ByteArray := prog_14_method_38_code
abbrev hd_M_origin : Cond := .code y_M_origin b_M_origin 3 (some .int)
set_option maxRecDepth 100000 in
theorem hdT_M_origin : hd_M_origin ∈ TT := tt_in 956 rfl rfl
theorem hdO_M_origin : HdOk hd_M_origin y_M_origin 3 := Or.inl ⟨_, _, rfl⟩
def y_M_holding : MethodName := ⟨"LandRegisterModel", "holding", "(II)I"⟩
abbrev b_M_holding : ByteArray := prog_14_method_39_code
abbrev hd_M_holding : Cond := .code y_M_holding b_M_holding 5 (some .int)
set_option maxRecDepth 100000 in
theorem hdT_M_holding : hd_M_holding ∈ TT := tt_in 960 rfl rfl
theorem hdO_M_holding : HdOk hd_M_holding y_M_holding 5 := Or.inl ⟨_, _, rfl⟩
def y_M_owed : MethodName := ⟨"LandRegisterModel", "owed", "(I)J"⟩
abbrev b_M_owed : ByteArray := prog_14_method_40_code
abbrev hd_M_owed : Cond := .code y_M_owed b_M_owed 5 (some .long)
set_option maxRecDepth 100000 in
theorem hdT_M_owed : hd_M_owed ∈ TT := tt_in 964 rfl rfl
theorem hdO_M_owed : HdOk hd_M_owed y_M_owed 5 := Or.inl ⟨_, _, rfl⟩
def y_M_state : MethodName := ⟨"LandRegisterModel", "state", "(I)I"⟩
abbrev b_M_state : ByteArray := prog_14_method_41_code
abbrev hd_M_state : Cond := .code y_M_state b_M_state 2 (some .int)
set_option maxRecDepth 100000 in
theorem hdT_M_state : hd_M_state ∈ TT := tt_in 968 rfl rfl
theorem hdO_M_state : HdOk hd_M_state y_M_state 2 := Or.inl ⟨_, _, rfl⟩
def y_W_found : MethodName := ⟨"LandRegisterLaw", "found", "(LLandRegister;III[J)I"⟩
abbrev b_W_found : ByteArray := method_3_code
abbrev hd_W_found : Cond := .codeWith y_W_found b_W_found 6 (some .int) [(0, 12, 15, 13), (0, 12, 19, 15)]
set_option maxRecDepth 100000 in
theorem hdT_W_found : hd_W_found ∈ TT := tt_in 120 rfl rfl
theorem hdO_W_found : HdOk hd_W_found y_W_found 6 := Or.inr ⟨_, _, _, rfl⟩
def y_W_sell : MethodName := ⟨"LandRegisterLaw", "sell", "(LLandRegister;IIIIJ[J)I"⟩
abbrev b_W_sell : ByteArray := method_4_code
abbrev hd_W_sell : Cond := .codeWith y_W_sell b_W_sell 9 (some .int) [(0, 16, 19, 13), (0, 16, 23, 15)]
set_option maxRecDepth 100000 in
theorem hdT_W_sell : hd_W_sell ∈ TT := tt_in 426 rfl rfl
theorem hdO_W_sell : HdOk hd_W_sell y_W_sell 9 := Or.inr ⟨_, _, _, rfl⟩
def y_W_pledge : MethodName := ⟨"LandRegisterLaw", "pledge", "(LLandRegister;IIII[J)I"⟩
abbrev b_W_pledge : ByteArray := method_5_code
abbrev hd_W_pledge : Cond := .codeWith y_W_pledge b_W_pledge 7 (some .int) [(0, 14, 17, 13), (0, 14, 21, 15)]
set_option maxRecDepth 100000 in
theorem hdT_W_pledge : hd_W_pledge ∈ TT := tt_in 469 rfl rfl
theorem hdO_W_pledge : HdOk hd_W_pledge y_W_pledge 7 := Or.inr ⟨_, _, _, rfl⟩
def y_W_rerank : MethodName := ⟨"LandRegisterLaw", "rerank", "(LLandRegister;IIIII[J)I"⟩
abbrev b_W_rerank : ByteArray := method_6_code
abbrev hd_W_rerank : Cond := .codeWith y_W_rerank b_W_rerank 8 (some .int) [(0, 16, 19, 13), (0, 16, 23, 15)]
set_option maxRecDepth 100000 in
theorem hdT_W_rerank : hd_W_rerank ∈ TT := tt_in 496 rfl rfl
theorem hdO_W_rerank : HdOk hd_W_rerank y_W_rerank 8 := Or.inr ⟨_, _, _, rfl⟩
def y_W_release : MethodName := ⟨"LandRegisterLaw", "release", "(LLandRegister;III[J)I"⟩
abbrev b_W_release : ByteArray := method_7_code
abbrev hd_W_release : Cond := .codeWith y_W_release b_W_release 6 (some .int) [(0, 12, 15, 13), (0, 12, 19, 15)]
set_option maxRecDepth 100000 in
theorem hdT_W_release : hd_W_release ∈ TT := tt_in 529 rfl rfl
theorem hdO_W_release : HdOk hd_W_release y_W_release 6 := Or.inr ⟨_, _, _, rfl⟩
def y_W_caution : MethodName := ⟨"LandRegisterLaw", "caution", "(LLandRegister;III[J)I"⟩
abbrev b_W_caution : ByteArray := method_8_code
abbrev hd_W_caution : Cond := .codeWith y_W_caution b_W_caution 6 (some .int) [(0, 12, 15, 13), (0, 12, 19, 15)]
set_option maxRecDepth 100000 in
theorem hdT_W_caution : hd_W_caution ∈ TT := tt_in 553 rfl rfl
theorem hdO_W_caution : HdOk hd_W_caution y_W_caution 6 := Or.inr ⟨_, _, _, rfl⟩
def y_W_lift : MethodName := ⟨"LandRegisterLaw", "lift", "(LLandRegister;III[J)I"⟩
abbrev b_W_lift : ByteArray := method_9_code
abbrev hd_W_lift : Cond := .codeWith y_W_lift b_W_lift 6 (some .int) [(0, 12, 15, 13), (0, 12, 19, 15)]
set_option maxRecDepth 100000 in
theorem hdT_W_lift : hd_W_lift ∈ TT := tt_in 577 rfl rfl
theorem hdO_W_lift : HdOk hd_W_lift y_W_lift 6 := Or.inr ⟨_, _, _, rfl⟩
def y_W_split : MethodName := ⟨"LandRegisterLaw", "split", "(LLandRegister;III[J)I"⟩
abbrev b_W_split : ByteArray := method_10_code
abbrev hd_W_split : Cond := .codeWith y_W_split b_W_split 6 (some .int) [(0, 12, 15, 13), (0, 12, 19, 15)]
set_option maxRecDepth 100000 in
theorem hdT_W_split : hd_W_split ∈ TT := tt_in 601 rfl rfl
theorem hdO_W_split : HdOk hd_W_split y_W_split 6 := Or.inr ⟨_, _, _, rfl⟩
def y_W_merge : MethodName := ⟨"LandRegisterLaw", "merge", "(LLandRegister;III[J)I"⟩
abbrev b_W_merge : ByteArray := method_11_code
abbrev hd_W_merge : Cond := .codeWith y_W_merge b_W_merge 6 (some .int) [(0, 12, 15, 13), (0, 12, 19, 15)]
set_option maxRecDepth 100000 in
theorem hdT_W_merge : hd_W_merge ∈ TT := tt_in 625 rfl rfl
theorem hdO_W_merge : HdOk hd_W_merge y_W_merge 6 := Or.inr ⟨_, _, _, rfl⟩
def y_W_day : MethodName := ⟨"LandRegisterLaw", "day", "(LLandRegister;[J)I"⟩
abbrev b_W_day : ByteArray := method_12_code
abbrev hd_W_day : Cond := .codeWith y_W_day b_W_day 3 (some .int) [(0, 8, 11, 15)]
set_option maxRecDepth 100000 in
theorem hdT_W_day : hd_W_day ∈ TT := tt_in 649 rfl rfl
theorem hdO_W_day : HdOk hd_W_day y_W_day 3 := Or.inr ⟨_, _, _, rfl⟩
def y_W_view : MethodName := ⟨"LandRegisterLaw", "view", "(LLandRegister;II[J)I"⟩
abbrev b_W_view : ByteArray := method_13_code
abbrev hd_W_view : Cond := .codeWith y_W_view b_W_view 5 (some .int) [(0, 10, 13, 13)]
set_option maxRecDepth 100000 in
theorem hdT_W_view : hd_W_view ∈ TT := tt_in 657 rfl rfl
theorem hdO_W_view : HdOk hd_W_view y_W_view 5 := Or.inr ⟨_, _, _, rfl⟩
def y_W_area : MethodName := ⟨"LandRegisterLaw", "area", "(LLandRegister;I[J)I"⟩
abbrev b_W_area : ByteArray := method_14_code
abbrev hd_W_area : Cond := .codeWith y_W_area b_W_area 4 (some .int) [(0, 8, 11, 13)]
set_option maxRecDepth 100000 in
theorem hdT_W_area : hd_W_area ∈ TT := tt_in 665 rfl rfl
theorem hdO_W_area : HdOk hd_W_area y_W_area 4 := Or.inr ⟨_, _, _, rfl⟩
def y_W_share : MethodName := ⟨"LandRegisterLaw", "share", "(LLandRegister;II[J)I"⟩
abbrev b_W_share : ByteArray := method_15_code
abbrev hd_W_share : Cond := .codeWith y_W_share b_W_share 5 (some .int) [(0, 9, 12, 13)]
set_option maxRecDepth 100000 in
theorem hdT_W_share : hd_W_share ∈ TT := tt_in 672 rfl rfl
theorem hdO_W_share : HdOk hd_W_share y_W_share 5 := Or.inr ⟨_, _, _, rfl⟩
def y_W_mortgage : MethodName := ⟨"LandRegisterLaw", "mortgage", "(LLandRegister;III[J)I"⟩
abbrev b_W_mortgage : ByteArray := method_16_code
abbrev hd_W_mortgage : Cond := .codeWith y_W_mortgage b_W_mortgage 6 (some .int) [(0, 12, 15, 13)]
set_option maxRecDepth 100000 in
theorem hdT_W_mortgage : hd_W_mortgage ∈ TT := tt_in 679 rfl rfl
theorem hdO_W_mortgage : HdOk hd_W_mortgage y_W_mortgage 6 := Or.inr ⟨_, _, _, rfl⟩
def y_W_cautions : MethodName := ⟨"LandRegisterLaw", "cautions", "(LLandRegister;I[J)I"⟩
abbrev b_W_cautions : ByteArray := method_17_code
abbrev hd_W_cautions : Cond := .codeWith y_W_cautions b_W_cautions 4 (some .int) [(0, 9, 12, 13)]
set_option maxRecDepth 100000 in
theorem hdT_W_cautions : hd_W_cautions ∈ TT := tt_in 686 rfl rfl
theorem hdO_W_cautions : HdOk hd_W_cautions y_W_cautions 4 := Or.inr ⟨_, _, _, rfl⟩
def y_W_origin : MethodName := ⟨"LandRegisterLaw", "origin", "(LLandRegister;II[J)I"⟩
abbrev b_W_origin : ByteArray := method_18_code
abbrev hd_W_origin : Cond := .codeWith y_W_origin b_W_origin 5 (some .int) [(0, 10, 13, 13)]
set_option maxRecDepth 100000 in
theorem hdT_W_origin : hd_W_origin ∈ TT := tt_in 693 rfl rfl
theorem hdO_W_origin : HdOk hd_W_origin y_W_origin 5 := Or.inr ⟨_, _, _, rfl⟩
def y_W_holding : MethodName := ⟨"LandRegisterLaw", "holding", "(LLandRegister;II[J)I"⟩
abbrev b_W_holding : ByteArray := method_19_code
abbrev hd_W_holding : Cond := .codeWith y_W_holding b_W_holding 5 (some .int) [(0, 10, 13, 13)]
set_option maxRecDepth 100000 in
theorem hdT_W_holding : hd_W_holding ∈ TT := tt_in 700 rfl rfl
theorem hdO_W_holding : HdOk hd_W_holding y_W_holding 5 := Or.inr ⟨_, _, _, rfl⟩
def y_W_owed : MethodName := ⟨"LandRegisterLaw", "owed", "(LLandRegister;I[J)I"⟩
abbrev b_W_owed : ByteArray := method_20_code
abbrev hd_W_owed : Cond := .codeWith y_W_owed b_W_owed 4 (some .int) [(0, 8, 11, 13)]
set_option maxRecDepth 100000 in
theorem hdT_W_owed : hd_W_owed ∈ TT := tt_in 707 rfl rfl
theorem hdO_W_owed : HdOk hd_W_owed y_W_owed 4 := Or.inr ⟨_, _, _, rfl⟩
def y_W_state : MethodName := ⟨"LandRegisterLaw", "state", "(LLandRegister;I[J)I"⟩
abbrev b_W_state : ByteArray := method_21_code
abbrev hd_W_state : Cond := .codeWith y_W_state b_W_state 4 (some .int) [(0, 9, 12, 79)]
set_option maxRecDepth 100000 in
theorem hdT_W_state : hd_W_state ∈ TT := tt_in 718 rfl rfl
theorem hdO_W_state : HdOk hd_W_state y_W_state 4 := Or.inr ⟨_, _, _, rfl⟩
def y_Ar_fill : MethodName := ⟨"java/util/Arrays", "fill", "([JJ)V"⟩
abbrev b_Ar_fill : ByteArray := prog_24_method_101_code
abbrev hd_Ar_fill : Cond := .code y_Ar_fill b_Ar_fill 5 none
set_option maxRecDepth 100000 in
theorem hdT_Ar_fill : hd_Ar_fill ∈ TT := tt_in 383 rfl rfl
theorem hdO_Ar_fill : HdOk hd_Ar_fill y_Ar_fill 5 := Or.inl ⟨_, _, rfl⟩
theorem str_in {own : String} {k : Nat} {tx : String} (h : (own, k, tx) ∈ STRL) : (own, k, tx) ∈ STRL := h
theorem t_maxI : Cond.code Lib.Math.max.name Lib.Math.max.code 2 (some .int) ∈ TT := tt_in 319 (by decide +kernel) rfl
theorem t_maxL : Cond.code Lib.MathLoose.max_long.x Lib.MathLoose.max_long.code 4 (some .long) ∈ TT := tt_in 348 (by decide +kernel) rfl
end
section
/-! Worlds as numbered cells (a cell: its address, its content); the judgement G: a walk over such a world; contracts Ct of methods that come back or throw. -/
abbrev Wst : Type := Nat × (Nat → Nat) × (Nat → va_E)
def wl (N : Nat) (c : Nat → Nat × va_E) : va_W := (List.range N).map c
def ww (w : Wst) : va_W := wl w.1 (fun i => (w.2.1 i, w.2.2 i))
/-- the content of cell i is now x -/
def wS (w : Wst) (i : Nat) (x : va_E) : Wst := (w.1, w.2.1, va_up w.2.2 i x)
/-- one more cell, at the address q -/
def wN (w : Wst) (q : Nat) (x : va_E) : Wst := (w.1 + 1, va_up w.2.1 w.1 q, va_up w.2.2 w.1 x)
theorem wl_get {N i : Nat} {c : Nat → Nat × va_E} (h : i < N) : (wl N c)[i]? = some (c i) := by
  simp [wl, List.getElem?_range h]
theorem ww_get {w : Wst} {i : Nat} (h : i < w.1) {x : va_E} (hx : w.2.2 i = x) : (ww w)[i]? = some (w.2.1 i, x) := by
  rw [← hx]; exact wl_get h
theorem wl_set {N i : Nat} {c d : Nat → Nat × va_E} {x : Nat × va_E} (hi : d i = x) (ho : ∀ j, j ≠ i → d j = c j) : (wl N c).set i x = wl N d := by
  apply List.ext_getElem?
  intro j
  by_cases hj : j < N
  · rw [wl_get hj]
    by_cases e : j = i
    · subst e
      rw [List.getElem?_set_self (by simpa [wl] using hj), hi]
    · rw [List.getElem?_set_ne (fun z => e z.symm), wl_get hj, ho j e]
  · have h1 : ((wl N c).set i x)[j]? = none := List.getElem?_eq_none (by simpa [wl] using Nat.le_of_not_lt hj)
    have h2 : (wl N d)[j]? = none := List.getElem?_eq_none (by simpa [wl] using Nat.le_of_not_lt hj)
    rw [h1, h2]
theorem ww_set {w : Wst} {i : Nat} {x : va_E} : (ww w).set i (w.2.1 i, x) = ww (wS w i x) := by
  refine wl_set ?_ ?_
  · show (w.2.1 i, va_up w.2.2 i x i) = _
    rw [va_up_self]
  · intro j hj
    show (w.2.1 j, va_up w.2.2 i x j) = _
    rw [va_up_ne _ _ hj]
theorem ww_push {w : Wst} {q : Nat} {x : va_E} : ww w ++ [(q, x)] = ww (wN w q x) := by
  show (List.range w.1).map _ ++ [(q, x)] = (List.range (w.1 + 1)).map _
  rw [List.range_succ, List.map_append]
  congr 1
  · apply List.map_congr_left
    intro i hi
    have hi' : i ≠ w.1 := Nat.ne_of_lt (List.mem_range.mp hi)
    show (w.2.1 i, w.2.2 i) = (va_up w.2.1 w.1 q i, va_up w.2.2 w.1 x i)
    rw [va_up_ne _ _ hi', va_up_ne _ _ hi']
  · show [(q, x)] = [(va_up w.2.1 w.1 q w.1, va_up w.2.2 w.1 x w.1)]
    rw [va_up_self, va_up_self]
/-- the words that the tables' steady ones do not carry -/
def NW (U : State) : Prop := ∀ w ∈ NWL, va_Nw w U
theorem NW.warm {s U : State} (hW : s.WarmedH U.vm) (h : NW s) : NW U := by
  intro w hw
  have ok := NWL_ok w hw
  have hz := h w hw
  cases w <;> first | (simp [nwOk] at ok; done) | exact hz.warmM hW | exact va_Nw.warmM hW hz | exact va_Nw.warmD hW hz | exact va_Nw.warmC hW hz
abbrev loA (lo : Nat) : Nat → Prop := fun q => lo ≤ q
def tyA (AC : Nat → ClassId) : List (ClassId × FieldType) := [(AC 0, .int), (AC 1, .long), (AC 2, .boolean), (AC 3, .object "LandRegister$Deed"), (AC 4, .object "LandRegister$Parcel")]
/-- what holds of the tables, and of the cells below lo, at the start of every method -/
def SR (U : State) : Prop := ∀ x ∈ STRL, ∃ a, vk_R x.1 x.2.1 x.2.2 a U
def KK (D : va_G) (AC : Nat → ClassId) (lo : Nat) (U : State) : Prop :=
  va_K D CL (tyA AC) U ∧ NW U ∧ vx_Zq Bundle.tN "UNASSIGNED_STACK" Bundle.steD (loA lo) U U.heap ∧ vx_Zq Bundle.tN "SUPPRESSED_SENTINEL" Bundle.listD (loA lo) U U.heap ∧ SR U
theorem KK.to {D : va_G} {AC : Nat → ClassId} {lo : Nat} {s U : State} {H : Heap} {locs : List Loc} (h : KK D AC lo s) (hS : va_S (loA lo) s.heap H locs) (hU : U.heap = H) (hW : s.WarmedH U.vm) : KK D AC lo U := by
  obtain ⟨h1, h2, h3, h4, h5⟩ := h
  refine ⟨va_K.moved hW.alike h1, h2.warm hW, ?_, ?_, fun x hx => ?_⟩
  · rw [hU]; exact (h3.moved hW.alike).kept hS.2.1
  · rw [hU]; exact (h4.moved hW.alike).kept hS.2.1
  · obtain ⟨a, ha⟩ := h5 x hx
    exact ⟨a, ha.warm hW⟩
/-- the world w lies in the heap H -/
def wP (D : va_G) (lo : Nat) (w : Wst) (H : Heap) : Prop := va_P D CL (ww w) H ∧ va_D (loA lo) (ww w)
/-- how a method ends: it comes back with v, or throws an object of the class cls -/
def QC (D : va_G) (lo : Nat) (post : Option Value → Wst → Prop) (thr : String → Wst → Prop) (s : State) (o : Outcome) (t : State) : Prop :=
  ∃ w : Wst, wP D lo w t.heap ∧ va_S (loA lo) s.heap t.heap [] ∧
    ((∃ v, o = .returned v ∧ post v w) ∨ (∃ (a : Addr) (cls : String) (cell : Cell), o = .threw a ∧ thr cls w ∧ t.heap[a]? = some cell ∧ cell.vm.isStatics = false ∧ s.vm.findClass cls = some cell.cls))
def MetX (l : Launch) (y : MethodName) (ws : List Cond) (rm : Room) (lo : Nat) (Pc : Array Value → State → Prop) (Qc : Array Value → State → Outcome → State → Prop) : Prop :=
  MetFree l y (headSpec ws rm) Pc (fun _ _ _ _ _ => True) (fun a st o t => Qc a st o t ∧ ∃ L, st.WarmedH t.vm ∧ st.sameButNew ({ t with vm := st.vm } : State) L rm.cells rm.slots ∧ ∀ q ∈ L, lo ≤ q.base)
def PcX (D : va_G) (AC : Nat → ClassId) (lo : Nat) (av : List Value) (w : Wst) : Array Value → State → Prop := fun a U => a = av.toArray ∧ wP D lo w U.heap ∧ KK D AC lo U ∧ lo ≤ U.heap.size
theorem PcX.blind {D : va_G} {AC : Nat → ClassId} {lo : Nat} {av : List Value} {w : Wst} : FrameBlind (PcX D AC lo av w) := by
  intro a U g mk h
  obtain ⟨h1, h2, ⟨k1, k2, k3, k4, k5⟩, h4⟩ := h
  exact ⟨h1, h2, ⟨va_K.moved (u := U) (U := U.calling g mk a) (Vm.Alike.refl U.vm) k1, fun x hx => va_Nw.same (u := U) (U := U.calling g mk a) (by have := NWL_ok x hx; cases x <;> first | rfl | (simp [nwOk] at this; done)) rfl (k2 x hx), k3.moved (U := U.calling g mk a) (Vm.Alike.refl U.vm), k4.moved (U := U.calling g mk a) (Vm.Alike.refl U.vm), fun x hx => by
    obtain ⟨z, hz⟩ := k5 x hx
    exact ⟨z, hz.same rfl⟩⟩, h4⟩
/-- THE CONTRACT of a method y with the code word hd: from the world w with the arguments av it comes back with 'post', or throws with 'thr' -/
def Ct (l : Launch) (y : MethodName) (hd : Cond) (rm : Room) (D : va_G) (AC : Nat → ClassId) (lo : Nat) (av : List Value) (w : Wst) (post : Option Value → Wst → Prop) (thr : String → Wst → Prop) : Prop :=
  MetX l y (hd :: TT) rm lo (PcX D AC lo av w) (fun _ st o t => QC D lo post thr st o t)
/-- what is fixed in a method's body -/
def Cx (p : Program) (s : State) (m : MethodId) (args : Array Value) (meth : Method) (c : Code) (y : MethodName) (cc : ByteArray) (nL : Nat) (ret : Option FieldType) (xt : List (Nat × Nat × Nat × Nat)) (D : va_G) (AC : Nat → ClassId) (lo : Nat) : Prop :=
  CallFix p m c cc nL s args TT y.cls ∧ KK D AC lo s ∧ meth.locks = false ∧ meth.sig.returnType = ret ∧ meth.name = y.name ∧ lo ≤ s.heap.size ∧ c.exceptionTable.toList.map (fun h => (h.startPc, h.endPc, h.handlerPc, h.catchType)) = xt
def MQX (below : List Frame) (Qo : Outcome → State → Prop) (s : State) (mc ms lo : Nat) : State → Prop := fun t =>
  ∃ o, t.status = .running ∧ Ended t below o ∧ Qo o t ∧ ∃ L, s.WarmedH t.vm ∧ s.sameButNew ({ t with vm := s.vm } : State) L mc ms ∧ ∀ q ∈ L, lo ≤ q.base
def HB (s : State) (R : Room) (nL : Nat) (D : va_G) (lo : Nat) (w : Wst) (k n : Nat) (lv : List (Nat × Value)) (H : Heap) (locs : List Loc) (ls : Array Slot) (cells slots : Nat) : Prop :=
  lv_has ls nL lv ∧ wP D lo w H ∧ va_S (loA lo) s.heap H locs ∧ cells + k ≤ R.cells ∧ slots + n ≤ R.slots
/-- THE JUDGEMENT: from pc, with the known locals lv, the operand stack st and the world w, k cells of n slots still to be made, the method comes to its end -/
def G (p : Program) (l : Launch) (e : Env) (R : Room) (s : State) (m : MethodId) (args : Array Value) (below : List Frame) (meth : Method) (c : Code) (nL : Nat) (D : va_G) (lo : Nat) (post : Option Value → Wst → Prop) (thr : String → Wst → Prop) (w : Wst) (k n pc : Nat) (lv : List (Nat × Value)) (st : List Value) : Prop :=
  ∀ (H : Heap) (locs : List Loc) (ls : Array Slot) (cells slots : Nat), HB s R nL D lo w k n lv H locs ls cells slots → W p l e R s m args below meth c H locs cells slots (MQX below (QC D lo post thr s) s R.cells R.slots lo) (F0 m pc ls st)
section BX
variable {l : Launch} {R : Room} {p : Program} {e : Env} {below : List Frame} {s : State} {sargs : Array Value} {y : MethodName} {len Wt : Nat}
/-- A CALL, from the invoking instruction on: it comes back, or it throws -/
theorem backX {ws : List Cond} {rm : Room} {lo maxL : Nat} {Pc : Array Value → State → Prop} {Qc : Array Value → State → Outcome → State → Prop} (hM : MetX l y ws rm lo Pc Qc) (hbl : FrameBlind Pc)
    (hframes : rm.frames + 1 ≤ R.frames) (hlocals : Wt + (maxL + 11) + rm.locals ≤ R.locals)
    (hws : ∀ w ∈ ws, ∀ (a' : Array Value) (U : State), s.WarmedH U.vm → w.before a' U = true) (hini : (Cond.initialized y.cls).before sargs s = true)
    {m : MethodId} {meth : Method} {c : Code} {U : State} {Ls : List Loc} {c0 s0 : Nat} {g : JFrame} {ig : Instr} {mk : MethodId} {a : Array Value}
    (X : Stand p l e R s m sargs below meth c U Ls c0 s0) (hg : g.method = m) (hsize : g.locals.size = c.maxLocals) (hdg : decode c.code g.pc = .ok (ig, len))
    (hW : 2 * g.monitorRoom + (g.stack.map fun v => v.category).sum ≤ Wt) (hn : U.methodNamed? y = some mk) (hmt : ∃ methY cY, U.vm.method? mk = some methY ∧ methY.code = some cY ∧ cY.maxLocals = maxL)
    (hP : Pc a U) (h4 : c0 + rm.cells ≤ R.cells) (h5 : s0 + rm.slots ≤ R.slots) :
    ∃ (t T' : State) (L : List Loc) (o : Outcome), Stand p l e R s m sargs below meth c T' (Ls ++ L) (c0 + rm.cells) (s0 + rm.slots) ∧ T'.heap = t.heap ∧ T'.vm = t.vm ∧ (∀ q ∈ L, lo ≤ q.base) ∧ Qc a (U.calling g mk a) o t ∧
      ((∃ v, o = .returned v ∧ Steps p.tables e below (doInvoke e (U.setTop g) [] mk a).1 (T'.setTop { g with pc := g.pc + len, stack := v.toList ++ g.stack })) ∨
       (∃ x, o = .threw x ∧ Steps p.tables e below (doInvoke e (U.setTop g) [] mk a).1 ((T'.setTop g).pushFrame (.throwing x)))) := by
  obtain ⟨methY, cY, hmY, hcY, hlY⟩ := hmt
  obtain ⟨kY, hkY, -⟩ := className_of_methodNamed hn
  have hini' : (Cond.initialized y.cls).before a U = true := word_at X.warmed (Or.inl (by first | rfl | simp [Cond.onTables, Cond.keeps, Cond.steady])) hini
  have hinitY : kY.init = .initialized := Cond.initialized_spec (findClass_of_methodNamed hn) hkY hini'
  have h : At U g.method c below := by rw [hg]; exact X.here
  have happ : (headSpec ws rm).appliesLoose y e.platform (U.calling g mk a) = true :=
    Spec.appliesLoose_calling (g := g) h hdg hn hkY hinitY
      (X.room_calling (g := g) (R' := rm) hsize hmY hcY hframes (by rw [hlY]; omega) h4 h5) (atoms_intro fun w hw => hws w hw _ _ X.warmed)
  obtain ⟨mid, hmid⟩ := h.above
  have hfr : (U.setTop g).frames = (.java g :: mid) ++ below := by rw [State.frames_setTop' g h.top, hmid]; rfl
  obtain ⟨o, s₂, hsteps, -, hend, hq⟩ := Steps.callFree hM p X.admits X.cas X.clock (acts := []) hfr happ (hbl _ _ g mk hP) trivial
  rw [State.frames_setTop' g h.top] at hend
  have hq0 : Qc a (U.calling g mk a) o s₂ ∧ ∃ L, (U.calling g mk a).WarmedH s₂.vm ∧ (U.calling g mk a).sameButNew ({ s₂ with vm := (U.calling g mk a).vm } : State) L rm.cells rm.slots ∧ ∀ q ∈ L, lo ≤ q.base := hq
  obtain ⟨hq', L, hW₂, hsame, hL⟩ := hq0
  cases o with
  | threw x =>
    rw [X.tail] at hend
    obtain ⟨T', X', hW', hB, ht⟩ := X.outOfThrown hg (mk := mk) (a := a) (t := s₂) (x := x) (L := L) (k := rm.cells) (n := rm.slots) hend hW₂ hsame
    have hh : T'.heap = s₂.heap ∧ T'.vm = s₂.vm := by rw [ht]; exact ⟨rfl, rfl⟩
    exact ⟨s₂, T', L, .threw x, X', hh.1, hh.2, hL, hq', Or.inr ⟨x, rfl, by rw [← ht]; exact hsteps⟩⟩
  | returned v =>
    obtain ⟨e2, q2, q3, q4, q5, q6⟩ := hsame
    have e3 : s₂ = ({ (U.calling g mk a).setFrames s₂.frames with heap := s₂.heap, slotsUsed := s₂.slotsUsed } : State).setVm s₂.vm := by
      have : s₂ = ({ s₂ with vm := (U.calling g mk a).vm } : State).setVm s₂.vm := rfl
      rw [e2] at this
      exact this
    obtain ⟨c₂, i₂, len₂, hc₂, hd₂, hf₂⟩ := hend
    have hW' : U.WarmedH s₂.vm := hW₂
    have hcc : c₂ = c := by
      have h1 : s₂.code? g.method = U.code? g.method := by
        rw [State.code?_eq, State.code?_eq, hW'.alike.method?]
      exact Option.some.inj (hc₂.symm.trans (h1.trans h.code))
    subst hcc
    have hlen : len₂ = len := by rw [hdg] at hd₂; cases hd₂; rfl
    subst hlen
    obtain ⟨g₀, hg0⟩ := Option.isSome_iff_exists.mp h.top
    obtain ⟨r, hr⟩ := State.topJava?_eq_some.mp hg0
    have hs₂ : s₂ = (({ U with heap := s₂.heap, slotsUsed := s₂.slotsUsed } : State).setVm s₂.vm).setTop { g with pc := g.pc + len₂, stack := v.toList ++ g.stack } := by
      have hr' : (({ U with heap := s₂.heap, slotsUsed := s₂.slotsUsed } : State).setVm s₂.vm).frames = .java g₀ :: r := hr
      refine e3.trans ?_
      rw [hf₂, State.calling_eq h.top, State.setFrames_setFrames, State.setTop_of_frames _ hr', hr]
      rfl
    have hsame' : U.sameButNew ({ U with heap := s₂.heap, slotsUsed := s₂.slotsUsed } : State) L rm.cells rm.slots := by
      refine ⟨?_, q2, q3, q4, q5, q6⟩
      obtain ⟨t, ht, -⟩ := State.frames_cons hr
      show ({ U with heap := s₂.heap, slotsUsed := s₂.slotsUsed } : State) = { U.setFrames U.frames with heap := s₂.heap, slotsUsed := s₂.slotsUsed }
      rw [State.setFrames_self ht]
    subst hg
    refine ⟨s₂, (({ U with heap := s₂.heap, slotsUsed := s₂.slotsUsed } : State).setVm s₂.vm), L, .returned v,
      ⟨X.admits, X.cas, X.clock, X.frames, X.room, X.hears, X.method, X.code, (X.here.setHeapUsed s₂.heap s₂.slotsUsed).setVm hW'.alike, X.tail, State.WarmedH.trans X.warmed hW', X.limits, X.bytes, X.same.trans (hsame'.setVm s.vm)⟩,
      rfl, rfl, hL, hq', Or.inl ⟨v, rfl, ?_⟩⟩
    rw [← hs₂]
    exact hsteps
end BX
section OFG
variable {l : Launch} {y : MethodName} {cc : ByteArray} {maxL : Nat} {ret : Option FieldType} {rm : Room} {D : va_G} {AC : Nat → ClassId} {lo : Nat} {av : List Value} {w : Wst} {post : Option Value → Wst → Prop} {thr : String → Wst → Prop}
/-- a contract out of the walk of the body -/
theorem Ct.of (hy : plainName y.cls = true) (hn : (lg_sl av).length ≤ maxL)
    (body : ∀ p e s m args below meth c, l.admits e → Cx p s m args meth c y cc maxL ret [] D AC lo → G p l e rm s m args below meth c maxL D lo post thr w rm.cells rm.slots 0 (lv_args 0 av) []) :
    Ct l y (.code y cc maxL ret) rm D AC lo av w post thr := by
  unfold Ct MetX
  refine MetFree.of_bodyS (code := cc) (maxLocals := maxL) (ret := ret) hy ?_ ?_
  · intro args s m h hn
    obtain ⟨meth, c, h1, h2, h3, h4, h5, h6, -, -⟩ := Cond.code_spec hn (atoms_spec (ws := Cond.code y cc maxL ret :: TT) h _ List.mem_cons_self)
    exact ⟨meth, c, h1, h2, h3, h4, h5, h6⟩
  · intro p e s m args below meth c s₁ B hml hP _
    obtain ⟨rfl, hw, hk, hlo⟩ := hP
    have hts0 := atoms_spec (ws := Cond.code y cc maxL ret :: TT) B.pre
    have he : c.exceptionTable.toList.map (fun h => (h.startPc, h.endPc, h.handlerPc, h.catchType)) = [] := by
      have := B.noHandlers (hts0 _ List.mem_cons_self)
      have h0 : c.exceptionTable = #[] := by simpa using this
      rw [h0]; rfl
    have hX : Cx p s m av.toArray meth c y cc maxL ret [] D AC lo := ⟨⟨B.exec, B.bytes, hml, findClass_of_methodNamed B.named, fun w h => hts0 w (List.mem_cons_of_mem _ h)⟩, hk, B.notSynchronized, B.returns, (name_of_methodNamed B.named B.method).1, hlo, he⟩
    have hh0 : s₁.heap = s.heap := by rw [B.state]; rfl
    have hl := lv_entry av (n := maxL) hn
    have K := body p e s m av.toArray below meth c B.admits hX s.heap [] _ 0 0 ⟨hl, hw, va_S.rf, by omega, by omega⟩
    rw [← lg_entry_eq] at K
    obtain ⟨t, a1, o, b1, b2, b3, L, b4, b5, b6⟩ := K s₁ hh0 (Stand.of_body B)
    exact ⟨t, o, a1, b1, b2, b3, L, b4, b5, b6⟩
theorem Ct.ofH {hh : List (Nat × Nat × Nat × Nat)} (hy : plainName y.cls = true) (hn : (lg_sl av).length ≤ maxL)
    (body : ∀ p e s m args below meth c, l.admits e → Cx p s m args meth c y cc maxL ret hh D AC lo → G p l e rm s m args below meth c maxL D lo post thr w rm.cells rm.slots 0 (lv_args 0 av) []) :
    Ct l y (.codeWith y cc maxL ret hh) rm D AC lo av w post thr := by
  unfold Ct MetX
  refine MetFree.of_bodyS (code := cc) (maxLocals := maxL) (ret := ret) hy ?_ ?_
  · intro args s m h hn
    obtain ⟨m9, meth, c, hn9, h1, h2, h3, h4, -, h5, h6, -⟩ := Cond.codeWith_spec (atoms_spec (ws := Cond.codeWith y cc maxL ret hh :: TT) h _ List.mem_cons_self)
    cases hn.symm.trans hn9
    exact ⟨meth, c, h1, h2, h3, h4, h5, h6⟩
  · intro p e s m args below meth c s₁ B hml hP _
    obtain ⟨rfl, hw, hk, hlo⟩ := hP
    have hts0 := atoms_spec (ws := Cond.codeWith y cc maxL ret hh :: TT) B.pre
    have he : c.exceptionTable.toList.map (fun h => (h.startPc, h.endPc, h.handlerPc, h.catchType)) = hh := by
      obtain ⟨m9, meth9, c9, hn9, h1, h2, -, -, h5, -⟩ := Cond.codeWith_spec (hts0 _ List.mem_cons_self)
      cases B.named.symm.trans hn9
      cases B.method.symm.trans h1
      cases (Stand.of_body B).code.symm.trans h2
      exact h5
    have hX : Cx p s m av.toArray meth c y cc maxL ret hh D AC lo := ⟨⟨B.exec, B.bytes, hml, findClass_of_methodNamed B.named, fun w h => hts0 w (List.mem_cons_of_mem _ h)⟩, hk, B.notSynchronized, B.returns, (name_of_methodNamed B.named B.method).1, hlo, he⟩
    have hh0 : s₁.heap = s.heap := by rw [B.state]; rfl
    have hl := lv_entry av (n := maxL) hn
    have K := body p e s m av.toArray below meth c B.admits hX s.heap [] _ 0 0 ⟨hl, hw, va_S.rf, by omega, by omega⟩
    rw [← lg_entry_eq] at K
    obtain ⟨t, a1, o, b1, b2, b3, L, b4, b5, b6⟩ := K s₁ hh0 (Stand.of_body B)
    exact ⟨t, o, a1, b1, b2, b3, L, b4, b5, b6⟩
end OFG
end
section
/-! Calls over the judgement G -/
theorem va_S_trans {A : Nat → Prop} {H0 H H1 : Heap} {locs L : List Loc} (h : va_S A H0 H locs) (h1 : va_S A H H1 []) (hL : ∀ q ∈ L, A q.base) : va_S A H0 H1 (locs ++ L) :=
  ⟨Nat.le_trans h.1 h1.1, fun q hq hn => (h1.2.1 q (Nat.lt_of_lt_of_le hq h.1) hn).trans (h.2.1 q hq hn), fun q hq => by
    rcases List.mem_append.mp hq with a | a
    · exact h.2.2 q a
    · exact hL q a⟩
theorem va_S_nil {A : Nat → Prop} {H0 H : Heap} {locs : List Loc} (h : va_S A H0 H locs) : va_S A H0 H [] := ⟨h.1, h.2.1, fun _ z => by cases z⟩
theorem HdOk.spec {hd : Cond} {y : MethodName} {maxL : Nat} {args : Array Value} {s : State} (h : HdOk hd y maxL) (hb : hd.before args s = true) :
    ∃ mk methM cM, s.methodNamed? y = some mk ∧ s.vm.method? mk = some methM ∧ methM.code = some cM ∧ cM.maxLocals = maxL ∧ parseMethodDescriptor y.desc = some methM.sig := by
  rcases h with ⟨b, ret, rfl⟩ | ⟨b, ret, hh, rfl⟩
  · obtain ⟨mk, hn⟩ := Cond.code_named hb
    obtain ⟨methM, cM, h1, h2, -, h3, -, -, -, h4⟩ := Cond.code_spec hn hb
    exact ⟨mk, methM, cM, hn, h1, h2, h3, h4⟩
  · obtain ⟨mk, methM, cM, hn, h1, h2, -, h3, -, -, -, h4⟩ := Cond.codeWith_spec hb
    exact ⟨mk, methM, cM, hn, h1, h2, h3, h4⟩
theorem TT_good {w : Cond} (h : w ∈ TT) : (w.onTables && w.keeps) = true ∨ ∃ ty, w = .arrayClass ty := good_of_word (List.mem_filter.mp h).2
theorem TT_warm {s : State} {args : Array Value} (hts : ∀ w ∈ TT, w.before args s = true) {hd : Cond} (hh : hd ∈ TT) : ∀ w ∈ hd :: TT, ∀ (a' : Array Value) (U : State), s.WarmedH U.vm → w.before a' U = true := by
  intro w hw a' U hW
  have hm : w ∈ TT := by
    rcases List.mem_cons.mp hw with e | h
    · rw [e]; exact hh
    · exact h
  exact word_at hW (TT_good hm) (hts w hm)
section CALLS
variable {p : Program} {l : Launch} {e : Env} {R : Room} {s : State} {m : MethodId} {args : Array Value} {below : List Frame} {meth : Method} {c : Code} {y : MethodName} {cc : ByteArray} {nL : Nat} {ret : Option FieldType} {xt : List (Nat × Nat × Nat × Nat)} {D : va_G} {AC : Nat → ClassId} {lo : Nat}
  {post : Option Value → Wst → Prop} {thr : String → Wst → Prop} {w : Wst} {k n pc : Nat} {lv : List (Nat × Value)} {st rest : List Value}
  {y2 : MethodName} {hd2 : Cond} {rm2 : Room} {av : List Value} {post2 : Option Value → Wst → Prop} {thr2 : String → Wst → Prop} {maxL2 idx : Nat}
theorem Cx.ts (hX : Cx p s m args meth c y cc nL ret xt D AC lo) : ∀ w ∈ TT, w.before args s = true := hX.1.2.2.2.2
theorem Cx.own (hX : Cx p s m args meth c y cc nL ret xt D AC lo) : s.vm.findClass y.cls = some m.cls := hX.1.2.2.2.1
theorem Cx.out (hX : Cx p s m args meth c y cc nL ret [] D AC lo) (pc : Nat) : ∀ x ∈ c.exceptionTable.toList, covers x pc = false := by
  have h := hX.2.2.2.2.2.2
  intro x hx
  have : c.exceptionTable.toList = [] := List.map_eq_nil_iff.mp h
  rw [this] at hx
  cases hx
/-- behind the invoking instruction -/
theorem afterX (hX : Cx p s m args meth c y cc nL ret [] D AC lo) (hC : Ct l y2 hd2 rm2 D AC lo av w post2 thr2) (hhd : hd2 ∈ TT) (hok : HdOk hd2 y2 maxL2) (hini : Cond.initialized y2.cls ∈ TT)
    (hR : rm2.frames + 1 ≤ R.frames ∧ 8 + (maxL2 + 11) + rm2.locals ≤ R.locals) (hroom : (rest.map fun v => v.category).sum ≤ 8)
    {ig : Instr} (hdg : decode cc pc = .ok (ig, 3))
    (kr : ∀ v w', post2 v w' → G p l e R s m args below meth c nL D lo post thr w' k n (pc + 3) lv (v.toList ++ rest)) (kt : ∀ cls w', thr2 cls w' → thr cls w')
    {H : Heap} {locs : List Loc} {ls : Array Slot} {cells slots : Nat} (h : HB s R nL D lo w (k + rm2.cells) (n + rm2.slots) lv H locs ls cells slots) {T : State} (hT : T.heap = H)
    {vm₁ : Vm} (S₁ : Stand p l e R s m args below meth c (T.setVm vm₁) locs cells slots) {mk : MethodId} (hnamed : s.methodNamed? y2 = some mk)
    (hstep : ∀ target, (∀ acts, Steps p.tables e below (doInvoke e ((T.setVm vm₁).setTop { F0 m pc ls st with stack := rest }) acts mk av.toArray).1 target) → Steps p.tables e below (T.setTop (F0 m pc ls st)) target) :
    ∃ t, Steps p.tables e below (T.setTop (F0 m pc ls st)) t ∧ MQX below (QC D lo post thr s) s R.cells R.slots lo t := by
  obtain ⟨hl, hP, hS, hc, hs⟩ := h
  have hb : c.code = cc := hX.1.2.1
  have hml : c.maxLocals = nL := hX.1.2.2.1
  have hn' := S₁.named hnamed
  have hmt : ∃ methY cY, (T.setVm vm₁).vm.method? mk = some methY ∧ methY.code = some cY ∧ cY.maxLocals = maxL2 := by
    obtain ⟨mk', methM, cM, h1, h2, h3, h4, -⟩ := hok.spec (TT_warm (hd := hd2) hX.ts hhd hd2 List.mem_cons_self args (T.setVm vm₁) S₁.warmed)
    cases hn'.symm.trans h1
    exact ⟨methM, cM, h2, h3, h4⟩
  obtain ⟨t, T', L, o, S', e1, e2, hL, hq, hcase⟩ := backX (Wt := 8) (len := 3) hC PcX.blind hR.1 hR.2 (TT_warm hX.ts hhd) (hX.ts _ hini) S₁ (g := { F0 m pc ls st with stack := rest }) (ig := ig) rfl
    (by show ls.size = c.maxLocals; rw [hml]; exact hl.1) (by rw [hb]; exact hdg) (lv_room (m := m) (pc := pc) (ls := ls) (rest := st) hroom) hn' hmt
    ⟨rfl, by show wP D lo w T.heap; rw [hT]; exact hP, hX.2.1.to hS hT S₁.warmed, by show lo ≤ T.heap.size; rw [hT]; exact Nat.le_trans hX.2.2.2.2.2.1 hS.1⟩ (by omega) (by omega)
  obtain ⟨w', hw', hS', hor⟩ := hq
  have hS1 : va_S (loA lo) H T'.heap [] := by rw [e1, ← hT]; exact hS'
  rcases hcase with ⟨v, rfl, stp⟩ | ⟨x, rfl, stp⟩
  · rcases hor with ⟨v', hv, hp⟩ | ⟨_, _, _, hv, _⟩
    · cases hv
      obtain ⟨t2, a1, b1⟩ := kr v w' hp T'.heap (locs ++ L) ls (cells + rm2.cells) (slots + rm2.slots) ⟨hl, by rw [e1]; exact hw', va_S_trans hS hS1 hL, by omega, by omega⟩ T' rfl S'
      exact ⟨t2, hstep _ fun acts => by rw [doInvoke_state]; exact stp.trans a1, b1⟩
    · cases hv
  · rcases hor with ⟨v', hv, hp⟩ | ⟨a, cls, cell, hv, hp, g1, g2, g3⟩
    · cases hv
    · cases hv
      obtain ⟨hsteps, hrun, hend, hW', hsame⟩ := S'.leaveThrown x (g := { F0 m pc ls st with stack := rest }) rfl rfl rfl (hX.out pc) (hlocks := hX.2.2.1)
      refine ⟨_, hstep _ fun acts => by rw [doInvoke_state]; exact stp.trans hsteps, .threw x, hrun, hend, ⟨w', by show wP D lo w' T'.heap; rw [e1]; exact hw', va_S_nil (va_S_trans (L := []) hS hS1 (fun _ z => by cases z)), Or.inr ⟨x, cls, cell, rfl, kt cls w' hp, by show T'.heap[x]? = some cell; rw [e1]; exact g1, g2, ?_⟩⟩, locs ++ L, hW', hsame.mono (by omega) (by omega), (va_S_trans hS hS1 hL).2.2⟩
      have ha : s.vm.Alike vm₁ := S₁.warmed.alike
      rw [← ha.findClass]; exact g3
/-- invokestatic -/
theorem g_callS (hX : Cx p s m args meth c y cc nL ret [] D AC lo) (hC : Ct l y2 hd2 rm2 D AC lo av w post2 thr2) (hhd : hd2 ∈ TT) (hok : HdOk hd2 y2 maxL2) (hini : Cond.initialized y2.cls ∈ TT) (hlink : Cond.methodLink y.cls idx y2 ∈ TT) (hstat : Cond.static y2 ∈ TT)
    (hd : (y2.cls ≠ "java/lang/invoke/MethodHandle" ∧ y2.cls ≠ "java/lang/invoke/VarHandle") ∧ (parseMethodDescriptor y2.desc).map (fun d => d.parameters.length) = some av.length)
    (hR : rm2.frames + 1 ≤ R.frames ∧ 8 + (maxL2 + 11) + rm2.locals ≤ R.locals) (hroom : (rest.map fun v => v.category).sum ≤ 8) (hdg : decode cc pc = .ok (.invokestatic idx, 3)) (hst : st = av.reverse ++ rest)
    (kr : ∀ v w', post2 v w' → G p l e R s m args below meth c nL D lo post thr w' k n (pc + 3) lv (v.toList ++ rest)) (kt : ∀ cls w', thr2 cls w' → thr cls w') :
    G p l e R s m args below meth c nL D lo post thr w (k + rm2.cells) (n + rm2.slots) pc lv st := by
  intro H locs ls cells slots h T hT S
  obtain ⟨mk, methM, cM, hnamed, hmethM, -, -, hsigM⟩ := hok.spec (hX.ts _ hhd)
  have hstatic : methM.isStatic = true := Cond.static_spec hnamed hmethM (hX.ts _ hstat)
  obtain ⟨kP, hkP, -⟩ := className_of_methodNamed hnamed
  have hinitP : kP.init = .initialized := Cond.initialized_spec (findClass_of_methodNamed hnamed) hkP (hX.ts _ hini)
  obtain ⟨vm₁, S₁, hstep₁⟩ := S.invokestatic hX.1.1 hX.own (hX.ts _ hlink) hnamed hmethM hstatic hkP hinitP hd.1 (g := F0 m pc ls st) rfl (argsL := av) (rest := rest)
    (by have h2 := hd.2; rw [hsigM] at h2; exact (Option.some.inj h2).symm) hst (by rw [hX.1.2.1]; exact hdg)
  exact afterX hX hC hhd hok hini hR hroom hdg kr kt h hT S₁ hnamed hstep₁
/-- invokestatic of a nest mate's private method -/
theorem g_callSN {host : String} (hX : Cx p s m args meth c y cc nL ret [] D AC lo) (hC : Ct l y2 hd2 rm2 D AC lo av w post2 thr2) (hhd : hd2 ∈ TT) (hok : HdOk hd2 y2 maxL2) (hini : Cond.initialized y2.cls ∈ TT) (hlink : Cond.methodLinkNest y.cls idx y2 host ∈ NWL) (hstat : Cond.static y2 ∈ TT)
    (hd : (y2.cls ≠ "java/lang/invoke/MethodHandle" ∧ y2.cls ≠ "java/lang/invoke/VarHandle") ∧ (parseMethodDescriptor y2.desc).map (fun d => d.parameters.length) = some av.length)
    (hR : rm2.frames + 1 ≤ R.frames ∧ 8 + (maxL2 + 11) + rm2.locals ≤ R.locals) (hroom : (rest.map fun v => v.category).sum ≤ 8) (hdg : decode cc pc = .ok (.invokestatic idx, 3)) (hst : st = av.reverse ++ rest)
    (kr : ∀ v w', post2 v w' → G p l e R s m args below meth c nL D lo post thr w' k n (pc + 3) lv (v.toList ++ rest)) (kt : ∀ cls w', thr2 cls w' → thr cls w') :
    G p l e R s m args below meth c nL D lo post thr w (k + rm2.cells) (n + rm2.slots) pc lv st := by
  intro H locs ls cells slots h T hT S
  obtain ⟨mk, methM, cM, hnamed, hmethM, -, -, hsigM⟩ := hok.spec (hX.ts _ hhd)
  have hstatic : methM.isStatic = true := Cond.static_spec hnamed hmethM (hX.ts _ hstat)
  obtain ⟨kP, hkP, -⟩ := className_of_methodNamed hnamed
  have hinitP : kP.init = .initialized := Cond.initialized_spec (findClass_of_methodNamed hnamed) hkP (hX.ts _ hini)
  obtain ⟨vm₁, S₁, hstep₁⟩ := S.invokestaticNest hX.1.1 hX.own (va_Nw.use rfl (hX.2.1.2.1 _ hlink)) hnamed hmethM hstatic hkP hinitP hd.1 (g := F0 m pc ls st) rfl (argsL := av) (rest := rest)
    (by have h2 := hd.2; rw [hsigM] at h2; exact (Option.some.inj h2).symm) hst (by rw [hX.1.2.1]; exact hdg)
  exact afterX hX hC hhd hok hini hR hroom hdg kr kt h hT S₁ hnamed hstep₁
/-- invokevirtual on an object of the method's own class -/
theorem g_callV {i ci Nf a : Nat} {fs : List Value} {C : String} {Tf : u_T} {As : List Value} (hX : Cx p s m args meth c y cc nL ret [] D AC lo) (hC : Ct l y2 hd2 rm2 D AC lo (.ref a :: As) w post2 thr2) (hhd : hd2 ∈ TT) (hok : HdOk hd2 y2 maxL2) (hini : Cond.initialized y2.cls ∈ TT) (hlink : Cond.methodLink y.cls idx y2 ∈ TT) (hinst : Cond.instanceMethod y2 ∈ TT) (hsel : Cond.selects C y2 y2 ∈ TT)
    (hi : i < w.1) (ha : w.2.1 i = a) (he : w.2.2 i = .inr (ci, fs)) (hc : CL[ci]? = some (C, Tf, Nf))
    (hd : (y2.cls ≠ "java/lang/invoke/MethodHandle" ∧ y2.cls ≠ "java/lang/invoke/VarHandle") ∧ (parseMethodDescriptor y2.desc).map (fun d => d.parameters.length) = some As.length)
    (hR : rm2.frames + 1 ≤ R.frames ∧ 8 + (maxL2 + 11) + rm2.locals ≤ R.locals) (hroom : (rest.map fun v => v.category).sum ≤ 8) (hdg : decode cc pc = .ok (.invokevirtual idx, 3)) (hst : st = As.reverse ++ .ref a :: rest)
    (kr : ∀ v w', post2 v w' → G p l e R s m args below meth c nL D lo post thr w' k n (pc + 3) lv (v.toList ++ rest)) (kt : ∀ cls w', thr2 cls w' → thr cls w') :
    G p l e R s m args below meth c nL D lo post thr w (k + rm2.cells) (n + rm2.slots) pc lv st := by
  subst ha
  intro H locs ls cells slots h T hT S
  obtain ⟨cellB, hcB, hoB, hclB⟩ := va_recv hX.2.1.1 h.2.1.1 hc (ww_get hi he)
  obtain ⟨mk, methM, hnamed, hmethM, hstM, habM⟩ := Cond.instanceMethod_spec (hX.ts _ hinst)
  obtain ⟨mk', methM', cM, hnamed', hmethM', -, -, hsigM⟩ := hok.spec (hX.ts _ hhd)
  cases hnamed.symm.trans hnamed'
  cases hmethM.symm.trans hmethM'
  obtain ⟨c2, r2, m2, q1, q2, q3, q4, kP, hkP, hkPi⟩ := Cond.selects_spec (hX.ts _ hsel)
  cases hclB.symm.trans q1
  cases (State.methodFound?_of_named hnamed hd.1).symm.trans q2
  cases hnamed.symm.trans q3
  have hselP : selectMethod e.platform s.vm cellB.cls mk = .method mk := by rw [Launch.admits_selectMethod S.admits]; exact q4
  obtain ⟨vm₁, S₁, hstep₁⟩ := S.invokevirtual hX.1.1 hX.own (hX.ts _ hlink) hnamed hmethM hstM hkP hkPi hd.1 (a := w.2.1 i) (cell := cellB) (by rw [hT]; exact hcB)
    (fun z h => by rw [h] at hoB; cases hoB) hselP hmethM habM hkP hkPi (g := F0 m pc ls st) rfl (argsL := As) (rest := rest)
    (by have h2 := hd.2; rw [hsigM] at h2; exact (Option.some.inj h2).symm) hst (by rw [hX.1.2.1]; exact hdg)
  exact afterX hX hC hhd hok hini hR hroom hdg kr kt h hT S₁ hnamed hstep₁
/-- invokevirtual of an abstract method x: what is run is y2, of the object's own class -/
theorem g_callU {i ci Nf a : Nat} {fs : List Value} {C owner : String} {Tf : u_T} {As : List Value} {x : MethodName} (hX : Cx p s m args meth c y cc nL ret [] D AC lo) (hC : Ct l y2 hd2 rm2 D AC lo (.ref a :: As) w post2 thr2) (hhd : hd2 ∈ TT) (hok : HdOk hd2 y2 maxL2) (hini : Cond.initialized y2.cls ∈ TT) (hlink : Cond.methodLink y.cls idx x ∈ TT) (hsame : Cond.sameMethod x.cls owner x.name x.desc ∈ TT) (hdecl : Cond.declares ⟨owner, x.name, x.desc⟩ ∈ NWL) (hinst : Cond.instanceMethod y2 ∈ TT) (hsel : Cond.selects C x y2 ∈ TT)
    (hi : i < w.1) (ha : w.2.1 i = a) (he : w.2.2 i = .inr (ci, fs)) (hc : CL[ci]? = some (C, Tf, Nf))
    (hd : (owner ≠ "java/lang/invoke/MethodHandle" ∧ owner ≠ "java/lang/invoke/VarHandle") ∧ (parseMethodDescriptor x.desc).map (fun d => d.parameters.length) = some As.length)
    (hR : rm2.frames + 1 ≤ R.frames ∧ 8 + (maxL2 + 11) + rm2.locals ≤ R.locals) (hroom : (rest.map fun v => v.category).sum ≤ 8) (hdg : decode cc pc = .ok (.invokevirtual idx, 3)) (hst : st = As.reverse ++ .ref a :: rest)
    (kr : ∀ v w', post2 v w' → G p l e R s m args below meth c nL D lo post thr w' k n (pc + 3) lv (v.toList ++ rest)) (kt : ∀ cls w', thr2 cls w' → thr cls w') :
    G p l e R s m args below meth c nL D lo post thr w (k + rm2.cells) (n + rm2.slots) pc lv st := by
  subst ha
  intro H locs ls cells slots h T hT S
  obtain ⟨cellB, hcB, hoB, hclB⟩ := va_recv hX.2.1.1 h.2.1.1 hc (ww_get hi he)
  obtain ⟨r0, r, hn, hrm, hstR, hsigR⟩ := va_Decl.abs (hX.2.1.2.1 _ hdecl)
  obtain ⟨cn, ck, r1, hcn, hck, hni, hf, hn1⟩ := Cond.sameMethod_found (hX.ts _ hsame)
  cases hn.symm.trans hn1
  obtain ⟨mk, methM, hnamed, hmethM, -, habM⟩ := Cond.instanceMethod_spec (hX.ts _ hinst)
  obtain ⟨c2, r2, m2, q1, q2, q3, q4, kP, hkP, hkPi⟩ := Cond.selects_spec (hX.ts _ hsel)
  cases hclB.symm.trans q1
  cases hf.symm.trans q2
  cases hnamed.symm.trans q3
  have hselP : selectMethod e.platform s.vm cellB.cls r0 = .method mk := by rw [Launch.admits_selectMethod S.admits]; exact q4
  obtain ⟨vm₁, S₁, hstep₁⟩ := S.invokevirtualUp hX.1.1 hX.own (hX.ts _ hlink) (hX.ts _ hsame) hd.1 hn hrm hstR (a := w.2.1 i) (cell := cellB) (by rw [hT]; exact hcB)
    (fun z h => by rw [h] at hoB; cases hoB) hselP hmethM habM hkP hkPi (g := F0 m pc ls st) rfl (argsL := As) (rest := rest)
    (by have h2 := hd.2; rw [hsigR] at h2; exact (Option.some.inj h2).symm) hst (by rw [hX.1.2.1]; exact hdg)
  exact afterX hX hC hhd hok hini hR hroom hdg kr kt h hT S₁ hnamed hstep₁
/-- invokespecial of a constructor -/
theorem g_callI {a : Nat} {As : List Value} {b2 : ByteArray} (hX : Cx p s m args meth c y cc nL ret [] D AC lo) (hC : Ct l y2 (.code y2 b2 maxL2 none) rm2 D AC lo (.ref a :: As) w post2 thr2) (hhd : Cond.code y2 b2 maxL2 none ∈ TT) (hini : Cond.initialized y2.cls ∈ TT) (hlink : Cond.methodLink y.cls idx y2 ∈ TT) (hinst : Cond.instanceMethod y2 ∈ TT) (hy1 : y2.name = "<init>")
    (hd : (y2.cls ≠ "java/lang/invoke/MethodHandle" ∧ y2.cls ≠ "java/lang/invoke/VarHandle") ∧ (parseMethodDescriptor y2.desc).map (fun d => d.parameters.length) = some As.length)
    (hR : rm2.frames + 1 ≤ R.frames ∧ 8 + (maxL2 + 11) + rm2.locals ≤ R.locals) (hroom : (rest.map fun v => v.category).sum ≤ 8) (hdg : decode cc pc = .ok (.invokespecial idx, 3)) (hst : st = As.reverse ++ .ref a :: rest)
    (kr : ∀ v w', post2 v w' → G p l e R s m args below meth c nL D lo post thr w' k n (pc + 3) lv (v.toList ++ rest)) (kt : ∀ cls w', thr2 cls w' → thr cls w') :
    G p l e R s m args below meth c nL D lo post thr w (k + rm2.cells) (n + rm2.slots) pc lv st := by
  intro H locs ls cells slots h T hT S
  have hpl : e.platform.magicAccessors = ({} : Platform).magicAccessors := by rw [S.admits.platform]
  obtain ⟨mk, methM, cM, kP, vm₁, hnamed, -, -, -, -, -, -, -, hW₁, hstep₁⟩ := Steps.initColdArgs (e := e) S.here hX.1.1 S.warmed hpl hX.own hy1 hd.1 (hX.ts _ hlink) (hX.ts _ hinst) (hX.ts _ hhd) (f := F0 m pc ls st) rfl (argsL := As) (rest := rest)
    (fun sig h => by have h2 := hd.2; rw [h] at h2; exact (Option.some.inj h2).symm) hst (by rw [hX.1.2.1]; exact hdg)
  exact afterX hX hC hhd (Or.inl ⟨_, _, rfl⟩) hini hR hroom hdg kr kt h hT (S.noted hW₁) hnamed hstep₁
theorem g_callIN {a : Nat} {As : List Value} {b2 : ByteArray} {host : String} (hX : Cx p s m args meth c y cc nL ret [] D AC lo) (hC : Ct l y2 (.code y2 b2 maxL2 none) rm2 D AC lo (.ref a :: As) w post2 thr2) (hhd : Cond.code y2 b2 maxL2 none ∈ TT) (hini : Cond.initialized y2.cls ∈ TT) (hlink : Cond.methodLinkNest y.cls idx y2 host ∈ NWL) (hinst : Cond.instanceMethod y2 ∈ TT) (hy1 : y2.name = "<init>")
    (hd : (y2.cls ≠ "java/lang/invoke/MethodHandle" ∧ y2.cls ≠ "java/lang/invoke/VarHandle") ∧ (parseMethodDescriptor y2.desc).map (fun d => d.parameters.length) = some As.length)
    (hR : rm2.frames + 1 ≤ R.frames ∧ 8 + (maxL2 + 11) + rm2.locals ≤ R.locals) (hroom : (rest.map fun v => v.category).sum ≤ 8) (hdg : decode cc pc = .ok (.invokespecial idx, 3)) (hst : st = As.reverse ++ .ref a :: rest)
    (kr : ∀ v w', post2 v w' → G p l e R s m args below meth c nL D lo post thr w' k n (pc + 3) lv (v.toList ++ rest)) (kt : ∀ cls w', thr2 cls w' → thr cls w') :
    G p l e R s m args below meth c nL D lo post thr w (k + rm2.cells) (n + rm2.slots) pc lv st := by
  intro H locs ls cells slots h T hT S
  have hpl : e.platform.magicAccessors = ({} : Platform).magicAccessors := by rw [S.admits.platform]
  obtain ⟨mk, methM, cM, kP, vm₁, hnamed, -, -, -, -, -, -, -, hW₁, hstep₁⟩ := Steps.initColdArgsNest (e := e) S.here hX.1.1 S.warmed hpl hX.own hy1 hd.1 (va_Nw.use rfl (hX.2.1.2.1 _ hlink)) (hX.ts _ hinst) (hX.ts _ hhd) (f := F0 m pc ls st) rfl (argsL := As) (rest := rest)
    (fun sig h => by have h2 := hd.2; rw [h] at h2; exact (Option.some.inj h2).symm) hst (by rw [hX.1.2.1]; exact hdg)
  exact afterX hX hC hhd (Or.inl ⟨_, _, rfl⟩) hini hR hroom hdg kr kt h hT (S.noted hW₁) hnamed hstep₁
end CALLS
end
section
/-! Rows: an instruction each -/
section ROWS
variable {p : Program} {l : Launch} {e : Env} {R : Room} {s : State} {m : MethodId} {args : Array Value} {below : List Frame} {meth : Method} {c : Code} {ym : MethodName} {cc : ByteArray} {nL : Nat} {ret : Option FieldType} {xt : List (Nat × Nat × Nat × Nat)} {D : va_G} {AC : Nat → ClassId} {lo : Nat}
  {post : Option Value → Wst → Prop} {thr : String → Wst → Prop} {w : Wst} {k n pc : Nat} {lv : List (Nat × Value)} {st : List Value}
theorem W.imp {H : Heap} {locs : List Loc} {cells slots : Nat} {Q Q' : State → Prop} {g : JFrame} (h : W p l e R s m args below meth c H locs cells slots Q g) (hq : ∀ t, Q t → Q' t) : W p l e R s m args below meth c H locs cells slots Q' g := fun T hT X => by
  obtain ⟨t, a, b⟩ := h T hT X
  exact ⟨t, a, hq t b⟩
/-- fewer known locals -/
theorem g_sub {lv' : List (Nat × Value)} (ks : List Nat) (hl : lv_pick lv ks = lv') (kk : G p l e R s m args below meth c nL D lo post thr w k n pc lv' st) : G p l e R s m args below meth c nL D lo post thr w k n pc lv st :=
  fun H locs ls cells slots h => kk H locs ls cells slots ⟨lv_sub h.1 ks hl, h.2⟩
/-- less to be made -/
theorem g_less {k' n' : Nat} (h1 : k' ≤ k) (h2 : n' ≤ n) (kk : G p l e R s m args below meth c nL D lo post thr w k' n' pc lv st) : G p l e R s m args below meth c nL D lo post thr w k n pc lv st :=
  fun H locs ls cells slots h => kk H locs ls cells slots ⟨h.1, h.2.1, h.2.2.1, by have := h.2.2.2.1; omega, by have := h.2.2.2.2; omega⟩
theorem g_iconst {z : Int} {v : Int32} (hX : Cx p s m args meth c ym cc nL ret xt D AC lo) (hd : decode cc pc = .ok (.iconst z, 1)) (hv : Int32.ofInt z = v) (kk : G p l e R s m args below meth c nL D lo post thr w k n (pc + 1) lv (.int v :: st)) : G p l e R s m args below meth c nL D lo post thr w k n pc lv st :=
  fun H locs ls cells slots h => lv_iconst hX.1.1 hX.1.2.1 hd hv (kk H locs ls cells slots h)
theorem g_bipush {z : Int} {v : Int32} (hX : Cx p s m args meth c ym cc nL ret xt D AC lo) (hd : decode cc pc = .ok (.bipush z, 2)) (hv : (Int8.ofInt z).toInt32 = v) (kk : G p l e R s m args below meth c nL D lo post thr w k n (pc + 2) lv (.int v :: st)) : G p l e R s m args below meth c nL D lo post thr w k n pc lv st :=
  fun H locs ls cells slots h => lv_bipush hX.1.1 hX.1.2.1 hd hv (kk H locs ls cells slots h)
theorem g_sipush {z : Int} {v : Int32} (hX : Cx p s m args meth c ym cc nL ret xt D AC lo) (hd : decode cc pc = .ok (.sipush z, 3)) (hv : (Int16.ofInt z).toInt32 = v) (kk : G p l e R s m args below meth c nL D lo post thr w k n (pc + 3) lv (.int v :: st)) : G p l e R s m args below meth c nL D lo post thr w k n pc lv st :=
  fun H locs ls cells slots h => lv_sipush hX.1.1 hX.1.2.1 hd hv (kk H locs ls cells slots h)
theorem g_lconst {z : Fin 2} {v : Int64} (hX : Cx p s m args meth c ym cc nL ret xt D AC lo) (hd : decode cc pc = .ok (.lconst z, 1)) (hv : Int64.ofNat (z : Nat) = v) (kk : G p l e R s m args below meth c nL D lo post thr w k n (pc + 1) lv (.long v :: st)) : G p l e R s m args below meth c nL D lo post thr w k n pc lv st :=
  fun H locs ls cells slots h => lv_lconst hX.1.1 hX.1.2.1 hd hv (kk H locs ls cells slots h)
theorem g_iload_n {j : Fin 4} {i : Nat} {x : Int32} (hX : Cx p s m args meth c ym cc nL ret xt D AC lo) (hd : decode cc pc = .ok (.iload_n j, 1)) (hi : (j : Nat) = i) (q : Nat) (hq : lv[q]? = some (i, .int x)) (kk : G p l e R s m args below meth c nL D lo post thr w k n (pc + 1) lv (.int x :: st)) : G p l e R s m args below meth c nL D lo post thr w k n pc lv st :=
  fun H locs ls cells slots h => lv_iload_n hX.1.1 hX.1.2.1 hd hi (lv_at h.1 q hq) (kk H locs ls cells slots h)
theorem g_iload {i : Nat} {x : Int32} (hX : Cx p s m args meth c ym cc nL ret xt D AC lo) (hd : decode cc pc = .ok (.iload i, 2)) (q : Nat) (hq : lv[q]? = some (i, .int x)) (kk : G p l e R s m args below meth c nL D lo post thr w k n (pc + 2) lv (.int x :: st)) : G p l e R s m args below meth c nL D lo post thr w k n pc lv st :=
  fun H locs ls cells slots h => lv_iload hX.1.1 hX.1.2.1 hd (lv_at h.1 q hq) (kk H locs ls cells slots h)
theorem g_istore_n {j : Fin 4} {i : Nat} {x : Int32} {lv' : List (Nat × Value)} (hX : Cx p s m args meth c ym cc nL ret xt D AC lo) (hd : decode cc pc = .ok (.istore_n j, 1)) (hi : (j : Nat) = i) (hn : i < nL) (hl : (i, Value.int x) :: lv.filter (fun q => !(q.1 == i) && !(q.1 + 1 == i && q.2.category == 2)) = lv') (kk : G p l e R s m args below meth c nL D lo post thr w k n (pc + 1) lv' st) : G p l e R s m args below meth c nL D lo post thr w k n pc lv (.int x :: st) :=
  fun H locs ls cells slots h => lv_istore_n hX.1.1 hX.1.2.1 hd hi h.1 hn hl (fun ls' h' => kk H locs ls' cells slots ⟨h', h.2⟩)
theorem g_istore {i : Nat} {x : Int32} {lv' : List (Nat × Value)} (hX : Cx p s m args meth c ym cc nL ret xt D AC lo) (hd : decode cc pc = .ok (.istore i, 2)) (hn : i < nL) (hl : (i, Value.int x) :: lv.filter (fun q => !(q.1 == i) && !(q.1 + 1 == i && q.2.category == 2)) = lv') (kk : G p l e R s m args below meth c nL D lo post thr w k n (pc + 2) lv' st) : G p l e R s m args below meth c nL D lo post thr w k n pc lv (.int x :: st) :=
  fun H locs ls cells slots h => lv_istore hX.1.1 hX.1.2.1 hd h.1 hn hl (fun ls' h' => kk H locs ls' cells slots ⟨h', h.2⟩)
theorem g_lload_n {j : Fin 4} {i : Nat} {x : Int64} (hX : Cx p s m args meth c ym cc nL ret xt D AC lo) (hd : decode cc pc = .ok (.lload_n j, 1)) (hi : (j : Nat) = i) (q : Nat) (hq : lv[q]? = some (i, .long x)) (kk : G p l e R s m args below meth c nL D lo post thr w k n (pc + 1) lv (.long x :: st)) : G p l e R s m args below meth c nL D lo post thr w k n pc lv st :=
  fun H locs ls cells slots h => lv_lload_n hX.1.1 hX.1.2.1 hd hi (lv_at h.1 q hq) (kk H locs ls cells slots h)
theorem g_lload {i : Nat} {x : Int64} (hX : Cx p s m args meth c ym cc nL ret xt D AC lo) (hd : decode cc pc = .ok (.lload i, 2)) (q : Nat) (hq : lv[q]? = some (i, .long x)) (kk : G p l e R s m args below meth c nL D lo post thr w k n (pc + 2) lv (.long x :: st)) : G p l e R s m args below meth c nL D lo post thr w k n pc lv st :=
  fun H locs ls cells slots h => lv_lload hX.1.1 hX.1.2.1 hd (lv_at h.1 q hq) (kk H locs ls cells slots h)
theorem g_lstore_n {j : Fin 4} {i : Nat} {x : Int64} {lv' : List (Nat × Value)} (hX : Cx p s m args meth c ym cc nL ret xt D AC lo) (hd : decode cc pc = .ok (.lstore_n j, 1)) (hi : (j : Nat) = i) (hn : i + 1 < nL) (hl : (i, Value.long x) :: lv.filter (fun q => !(q.1 == i) && (!(q.1 == i + 1) && !(q.1 + 1 == i && q.2.category == 2))) = lv') (kk : G p l e R s m args below meth c nL D lo post thr w k n (pc + 1) lv' st) : G p l e R s m args below meth c nL D lo post thr w k n pc lv (.long x :: st) :=
  fun H locs ls cells slots h => lv_lstore_n hX.1.1 hX.1.2.1 hd hi h.1 hn hl (fun ls' h' => kk H locs ls' cells slots ⟨h', h.2⟩)
theorem g_lstore {i : Nat} {x : Int64} {lv' : List (Nat × Value)} (hX : Cx p s m args meth c ym cc nL ret xt D AC lo) (hd : decode cc pc = .ok (.lstore i, 2)) (hn : i + 1 < nL) (hl : (i, Value.long x) :: lv.filter (fun q => !(q.1 == i) && (!(q.1 == i + 1) && !(q.1 + 1 == i && q.2.category == 2))) = lv') (kk : G p l e R s m args below meth c nL D lo post thr w k n (pc + 2) lv' st) : G p l e R s m args below meth c nL D lo post thr w k n pc lv (.long x :: st) :=
  fun H locs ls cells slots h => lv_lstore hX.1.1 hX.1.2.1 hd h.1 hn hl (fun ls' h' => kk H locs ls' cells slots ⟨h', h.2⟩)
theorem g_aload_n {j : Fin 4} {i : Nat} {x : Nat} (hX : Cx p s m args meth c ym cc nL ret xt D AC lo) (hd : decode cc pc = .ok (.aload_n j, 1)) (hi : (j : Nat) = i) (q : Nat) (hq : lv[q]? = some (i, .ref x)) (kk : G p l e R s m args below meth c nL D lo post thr w k n (pc + 1) lv (.ref x :: st)) : G p l e R s m args below meth c nL D lo post thr w k n pc lv st :=
  fun H locs ls cells slots h => lv_aload_n hX.1.1 hX.1.2.1 hd hi (lv_at h.1 q hq) (kk H locs ls cells slots h)
theorem g_aload {i : Nat} {x : Nat} (hX : Cx p s m args meth c ym cc nL ret xt D AC lo) (hd : decode cc pc = .ok (.aload i, 2)) (q : Nat) (hq : lv[q]? = some (i, .ref x)) (kk : G p l e R s m args below meth c nL D lo post thr w k n (pc + 2) lv (.ref x :: st)) : G p l e R s m args below meth c nL D lo post thr w k n pc lv st :=
  fun H locs ls cells slots h => lv_aload hX.1.1 hX.1.2.1 hd (lv_at h.1 q hq) (kk H locs ls cells slots h)
theorem g_astore_n {j : Fin 4} {i : Nat} {x : Nat} {lv' : List (Nat × Value)} (hX : Cx p s m args meth c ym cc nL ret xt D AC lo) (hd : decode cc pc = .ok (.astore_n j, 1)) (hi : (j : Nat) = i) (hn : i < nL) (hl : (i, Value.ref x) :: lv.filter (fun q => !(q.1 == i) && !(q.1 + 1 == i && q.2.category == 2)) = lv') (kk : G p l e R s m args below meth c nL D lo post thr w k n (pc + 1) lv' st) : G p l e R s m args below meth c nL D lo post thr w k n pc lv (.ref x :: st) :=
  fun H locs ls cells slots h => lv_astore_n hX.1.1 hX.1.2.1 hd hi h.1 hn hl (fun ls' h' => kk H locs ls' cells slots ⟨h', h.2⟩)
theorem g_astore {i : Nat} {x : Nat} {lv' : List (Nat × Value)} (hX : Cx p s m args meth c ym cc nL ret xt D AC lo) (hd : decode cc pc = .ok (.astore i, 2)) (hn : i < nL) (hl : (i, Value.ref x) :: lv.filter (fun q => !(q.1 == i) && !(q.1 + 1 == i && q.2.category == 2)) = lv') (kk : G p l e R s m args below meth c nL D lo post thr w k n (pc + 2) lv' st) : G p l e R s m args below meth c nL D lo post thr w k n pc lv (.ref x :: st) :=
  fun H locs ls cells slots h => lv_astore hX.1.1 hX.1.2.1 hd h.1 hn hl (fun ls' h' => kk H locs ls' cells slots ⟨h', h.2⟩)
theorem g_iinc {i : Nat} {z : Int} {x v : Int32} {lv' : List (Nat × Value)} (hX : Cx p s m args meth c ym cc nL ret xt D AC lo) (hd : decode cc pc = .ok (.iinc i z, 3)) (q : Nat) (hq : lv[q]? = some (i, .int x)) (hv : x + Int32.ofInt z = v) (hn : i < nL) (hl : (i, Value.int v) :: lv.filter (fun q => !(q.1 == i) && !(q.1 + 1 == i && q.2.category == 2)) = lv') (kk : G p l e R s m args below meth c nL D lo post thr w k n (pc + 3) lv' st) : G p l e R s m args below meth c nL D lo post thr w k n pc lv st :=
  fun H locs ls cells slots h => lv_iinc hX.1.1 hX.1.2.1 hd h.1 hq hv hn hl (fun ls' h' => kk H locs ls' cells slots ⟨h', h.2⟩)
theorem g_iadd {x y : Int32} (hX : Cx p s m args meth c ym cc nL ret xt D AC lo) (hd : decode cc pc = .ok (.iadd, 1))  (kk : G p l e R s m args below meth c nL D lo post thr w k n (pc + 1) lv (.int (x + y) :: st)) : G p l e R s m args below meth c nL D lo post thr w k n pc lv (.int y :: .int x :: st) :=
  fun H locs ls cells slots h => lv_iadd hX.1.1 hX.1.2.1 hd  (kk H locs ls cells slots h)
theorem g_isub {x y : Int32} (hX : Cx p s m args meth c ym cc nL ret xt D AC lo) (hd : decode cc pc = .ok (.isub, 1))  (kk : G p l e R s m args below meth c nL D lo post thr w k n (pc + 1) lv (.int (x - y) :: st)) : G p l e R s m args below meth c nL D lo post thr w k n pc lv (.int y :: .int x :: st) :=
  fun H locs ls cells slots h => lv_isub hX.1.1 hX.1.2.1 hd  (kk H locs ls cells slots h)
theorem g_imul {x y : Int32} (hX : Cx p s m args meth c ym cc nL ret xt D AC lo) (hd : decode cc pc = .ok (.imul, 1))  (kk : G p l e R s m args below meth c nL D lo post thr w k n (pc + 1) lv (.int (x * y) :: st)) : G p l e R s m args below meth c nL D lo post thr w k n pc lv (.int y :: .int x :: st) :=
  fun H locs ls cells slots h => lv_imul hX.1.1 hX.1.2.1 hd  (kk H locs ls cells slots h)
theorem g_iand {x y : Int32} (hX : Cx p s m args meth c ym cc nL ret xt D AC lo) (hd : decode cc pc = .ok (.iand, 1))  (kk : G p l e R s m args below meth c nL D lo post thr w k n (pc + 1) lv (.int (x &&& y) :: st)) : G p l e R s m args below meth c nL D lo post thr w k n pc lv (.int y :: .int x :: st) :=
  fun H locs ls cells slots h => lv_iand hX.1.1 hX.1.2.1 hd  (kk H locs ls cells slots h)
theorem g_ior {x y : Int32} (hX : Cx p s m args meth c ym cc nL ret xt D AC lo) (hd : decode cc pc = .ok (.ior, 1))  (kk : G p l e R s m args below meth c nL D lo post thr w k n (pc + 1) lv (.int (x ||| y) :: st)) : G p l e R s m args below meth c nL D lo post thr w k n pc lv (.int y :: .int x :: st) :=
  fun H locs ls cells slots h => lv_ior hX.1.1 hX.1.2.1 hd  (kk H locs ls cells slots h)
theorem g_ixor {x y : Int32} (hX : Cx p s m args meth c ym cc nL ret xt D AC lo) (hd : decode cc pc = .ok (.ixor, 1))  (kk : G p l e R s m args below meth c nL D lo post thr w k n (pc + 1) lv (.int (x ^^^ y) :: st)) : G p l e R s m args below meth c nL D lo post thr w k n pc lv (.int y :: .int x :: st) :=
  fun H locs ls cells slots h => lv_ixor hX.1.1 hX.1.2.1 hd  (kk H locs ls cells slots h)
theorem g_ishl {x y : Int32} (hX : Cx p s m args meth c ym cc nL ret xt D AC lo) (hd : decode cc pc = .ok (.ishl, 1))  (kk : G p l e R s m args below meth c nL D lo post thr w k n (pc + 1) lv (.int (x <<< (y &&& 31)) :: st)) : G p l e R s m args below meth c nL D lo post thr w k n pc lv (.int y :: .int x :: st) :=
  fun H locs ls cells slots h => lv_ishl hX.1.1 hX.1.2.1 hd  (kk H locs ls cells slots h)
theorem g_ishr {x y : Int32} (hX : Cx p s m args meth c ym cc nL ret xt D AC lo) (hd : decode cc pc = .ok (.ishr, 1))  (kk : G p l e R s m args below meth c nL D lo post thr w k n (pc + 1) lv (.int (x >>> (y &&& 31)) :: st)) : G p l e R s m args below meth c nL D lo post thr w k n pc lv (.int y :: .int x :: st) :=
  fun H locs ls cells slots h => lv_ishr hX.1.1 hX.1.2.1 hd  (kk H locs ls cells slots h)
theorem g_idiv {x y : Int32} (hX : Cx p s m args meth c ym cc nL ret xt D AC lo) (hd : decode cc pc = .ok (.idiv, 1)) (hne : ¬ y = 0) (kk : G p l e R s m args below meth c nL D lo post thr w k n (pc + 1) lv (.int (x / y) :: st)) : G p l e R s m args below meth c nL D lo post thr w k n pc lv (.int y :: .int x :: st) :=
  fun H locs ls cells slots h => lv_idiv hX.1.1 hX.1.2.1 hd hne (kk H locs ls cells slots h)
theorem g_ldiv {x y : Int64} (hX : Cx p s m args meth c ym cc nL ret xt D AC lo) (hd : decode cc pc = .ok (.ldiv, 1)) (hne : ¬ y = 0) (kk : G p l e R s m args below meth c nL D lo post thr w k n (pc + 1) lv (.long (x / y) :: st)) : G p l e R s m args below meth c nL D lo post thr w k n pc lv (.long y :: .long x :: st) :=
  fun H locs ls cells slots h => lv_ldiv hX.1.1 hX.1.2.1 hd hne (kk H locs ls cells slots h)
theorem g_irem {x y : Int32} (hX : Cx p s m args meth c ym cc nL ret xt D AC lo) (hd : decode cc pc = .ok (.irem, 1)) (hne : ¬ y = 0) (kk : G p l e R s m args below meth c nL D lo post thr w k n (pc + 1) lv (.int (x - x / y * y) :: st)) : G p l e R s m args below meth c nL D lo post thr w k n pc lv (.int y :: .int x :: st) :=
  fun H locs ls cells slots h => lv_irem hX.1.1 hX.1.2.1 hd hne (kk H locs ls cells slots h)
theorem g_lrem {x y : Int64} (hX : Cx p s m args meth c ym cc nL ret xt D AC lo) (hd : decode cc pc = .ok (.lrem, 1)) (hne : ¬ y = 0) (kk : G p l e R s m args below meth c nL D lo post thr w k n (pc + 1) lv (.long (x - x / y * y) :: st)) : G p l e R s m args below meth c nL D lo post thr w k n pc lv (.long y :: .long x :: st) :=
  fun H locs ls cells slots h => lv_lrem hX.1.1 hX.1.2.1 hd hne (kk H locs ls cells slots h)
theorem g_ladd {x y : Int64} (hX : Cx p s m args meth c ym cc nL ret xt D AC lo) (hd : decode cc pc = .ok (.ladd, 1))  (kk : G p l e R s m args below meth c nL D lo post thr w k n (pc + 1) lv (.long (x + y) :: st)) : G p l e R s m args below meth c nL D lo post thr w k n pc lv (.long y :: .long x :: st) :=
  fun H locs ls cells slots h => lv_ladd hX.1.1 hX.1.2.1 hd  (kk H locs ls cells slots h)
theorem g_lsub {x y : Int64} (hX : Cx p s m args meth c ym cc nL ret xt D AC lo) (hd : decode cc pc = .ok (.lsub, 1))  (kk : G p l e R s m args below meth c nL D lo post thr w k n (pc + 1) lv (.long (x - y) :: st)) : G p l e R s m args below meth c nL D lo post thr w k n pc lv (.long y :: .long x :: st) :=
  fun H locs ls cells slots h => lv_lsub hX.1.1 hX.1.2.1 hd  (kk H locs ls cells slots h)
theorem g_lmul {x y : Int64} (hX : Cx p s m args meth c ym cc nL ret xt D AC lo) (hd : decode cc pc = .ok (.lmul, 1))  (kk : G p l e R s m args below meth c nL D lo post thr w k n (pc + 1) lv (.long (x * y) :: st)) : G p l e R s m args below meth c nL D lo post thr w k n pc lv (.long y :: .long x :: st) :=
  fun H locs ls cells slots h => lv_lmul hX.1.1 hX.1.2.1 hd  (kk H locs ls cells slots h)
theorem g_land {x y : Int64} (hX : Cx p s m args meth c ym cc nL ret xt D AC lo) (hd : decode cc pc = .ok (.land, 1))  (kk : G p l e R s m args below meth c nL D lo post thr w k n (pc + 1) lv (.long (x &&& y) :: st)) : G p l e R s m args below meth c nL D lo post thr w k n pc lv (.long y :: .long x :: st) :=
  fun H locs ls cells slots h => lv_land hX.1.1 hX.1.2.1 hd  (kk H locs ls cells slots h)
theorem g_lor {x y : Int64} (hX : Cx p s m args meth c ym cc nL ret xt D AC lo) (hd : decode cc pc = .ok (.lor, 1))  (kk : G p l e R s m args below meth c nL D lo post thr w k n (pc + 1) lv (.long (x ||| y) :: st)) : G p l e R s m args below meth c nL D lo post thr w k n pc lv (.long y :: .long x :: st) :=
  fun H locs ls cells slots h => lv_lor hX.1.1 hX.1.2.1 hd  (kk H locs ls cells slots h)
theorem g_lshl {x : Int64} {y : Int32} (hX : Cx p s m args meth c ym cc nL ret xt D AC lo) (hd : decode cc pc = .ok (.lshl, 1))  (kk : G p l e R s m args below meth c nL D lo post thr w k n (pc + 1) lv (.long (x <<< (y.toInt64 &&& 63)) :: st)) : G p l e R s m args below meth c nL D lo post thr w k n pc lv (.int y :: .long x :: st) :=
  fun H locs ls cells slots h => lv_lshl hX.1.1 hX.1.2.1 hd rfl (kk H locs ls cells slots h)
theorem g_lshr {x : Int64} {y : Int32} (hX : Cx p s m args meth c ym cc nL ret xt D AC lo) (hd : decode cc pc = .ok (.lshr, 1))  (kk : G p l e R s m args below meth c nL D lo post thr w k n (pc + 1) lv (.long (x >>> (y.toInt64 &&& 63)) :: st)) : G p l e R s m args below meth c nL D lo post thr w k n pc lv (.int y :: .long x :: st) :=
  fun H locs ls cells slots h => lv_lshr hX.1.1 hX.1.2.1 hd rfl (kk H locs ls cells slots h)
theorem g_i2l {x : Int32} (hX : Cx p s m args meth c ym cc nL ret xt D AC lo) (hd : decode cc pc = .ok (.i2l, 1))  (kk : G p l e R s m args below meth c nL D lo post thr w k n (pc + 1) lv (.long x.toInt64 :: st)) : G p l e R s m args below meth c nL D lo post thr w k n pc lv (.int x :: st) :=
  fun H locs ls cells slots h => lv_i2l hX.1.1 hX.1.2.1 hd rfl (kk H locs ls cells slots h)
theorem g_l2i {x : Int64} (hX : Cx p s m args meth c ym cc nL ret xt D AC lo) (hd : decode cc pc = .ok (.l2i, 1))  (kk : G p l e R s m args below meth c nL D lo post thr w k n (pc + 1) lv (.int x.toInt32 :: st)) : G p l e R s m args below meth c nL D lo post thr w k n pc lv (.long x :: st) :=
  fun H locs ls cells slots h => lv_l2i hX.1.1 hX.1.2.1 hd rfl (kk H locs ls cells slots h)
theorem g_lcmp {x y : Int64} (hX : Cx p s m args meth c ym cc nL ret xt D AC lo) (hd : decode cc pc = .ok (.lcmp, 1))  (kk : G p l e R s m args below meth c nL D lo post thr w k n (pc + 1) lv (.int (lg_cmp x y) :: st)) : G p l e R s m args below meth c nL D lo post thr w k n pc lv (.long y :: .long x :: st) :=
  fun H locs ls cells slots h => W.lcmp hX.1.1 hX.1.2.1 hd  (kk H locs ls cells slots h)
theorem g_dup {va : Value} (hX : Cx p s m args meth c ym cc nL ret xt D AC lo) (hd : decode cc pc = .ok (.dup, 1)) (hva : va.category = 1) (kk : G p l e R s m args below meth c nL D lo post thr w k n (pc + 1) lv (va :: va :: st)) : G p l e R s m args below meth c nL D lo post thr w k n pc lv (va :: st) :=
  fun H locs ls cells slots h => lv_dup hX.1.1 hX.1.2.1 hd hva (kk H locs ls cells slots h)
theorem g_dup2 {va vb : Value} (hX : Cx p s m args meth c ym cc nL ret xt D AC lo) (hd : decode cc pc = .ok (.dup2, 1)) (hva : va.category = 1) (hvb : vb.category = 1) (kk : G p l e R s m args below meth c nL D lo post thr w k n (pc + 1) lv (va :: vb :: va :: vb :: st)) : G p l e R s m args below meth c nL D lo post thr w k n pc lv (va :: vb :: st) :=
  fun H locs ls cells slots h => lv_dup2_11 hX.1.1 hX.1.2.1 hd hva hvb (kk H locs ls cells slots h)
theorem g_if_eq {x : Int32} {off : Int} {tgt : Nat} (hX : Cx p s m args meth c ym cc nL ret xt D AC lo) (hd : decode cc pc = .ok (.ifCond .eq off, 3)) (ht : (pc : Int) + off = (tgt : Int)) (kt : x = 0 → G p l e R s m args below meth c nL D lo post thr w k n tgt lv st) (kf : ¬ x = 0 → G p l e R s m args below meth c nL D lo post thr w k n (pc + 3) lv st) : G p l e R s m args below meth c nL D lo post thr w k n pc lv (.int x :: st) :=
  fun H locs ls cells slots h => lv_if_eq hX.1.1 hX.1.2.1 hd ht (fun z => kt z H locs ls cells slots h) (fun z => kf z H locs ls cells slots h)
theorem g_icmp_eq {x y : Int32} {off : Int} {tgt : Nat} (hX : Cx p s m args meth c ym cc nL ret xt D AC lo) (hd : decode cc pc = .ok (.if_icmp .eq off, 3)) (ht : (pc : Int) + off = (tgt : Int)) (kt : x = y → G p l e R s m args below meth c nL D lo post thr w k n tgt lv st) (kf : ¬ x = y → G p l e R s m args below meth c nL D lo post thr w k n (pc + 3) lv st) : G p l e R s m args below meth c nL D lo post thr w k n pc lv (.int y :: .int x :: st) :=
  fun H locs ls cells slots h => lv_icmp_eq hX.1.1 hX.1.2.1 hd ht (fun z => kt z H locs ls cells slots h) (fun z => kf z H locs ls cells slots h)
theorem g_if_ne {x : Int32} {off : Int} {tgt : Nat} (hX : Cx p s m args meth c ym cc nL ret xt D AC lo) (hd : decode cc pc = .ok (.ifCond .ne off, 3)) (ht : (pc : Int) + off = (tgt : Int)) (kt : ¬ x = 0 → G p l e R s m args below meth c nL D lo post thr w k n tgt lv st) (kf : x = 0 → G p l e R s m args below meth c nL D lo post thr w k n (pc + 3) lv st) : G p l e R s m args below meth c nL D lo post thr w k n pc lv (.int x :: st) :=
  fun H locs ls cells slots h => lv_if_ne hX.1.1 hX.1.2.1 hd ht (fun z => kt z H locs ls cells slots h) (fun z => kf z H locs ls cells slots h)
theorem g_icmp_ne {x y : Int32} {off : Int} {tgt : Nat} (hX : Cx p s m args meth c ym cc nL ret xt D AC lo) (hd : decode cc pc = .ok (.if_icmp .ne off, 3)) (ht : (pc : Int) + off = (tgt : Int)) (kt : ¬ x = y → G p l e R s m args below meth c nL D lo post thr w k n tgt lv st) (kf : x = y → G p l e R s m args below meth c nL D lo post thr w k n (pc + 3) lv st) : G p l e R s m args below meth c nL D lo post thr w k n pc lv (.int y :: .int x :: st) :=
  fun H locs ls cells slots h => lv_icmp_ne hX.1.1 hX.1.2.1 hd ht (fun z => kt z H locs ls cells slots h) (fun z => kf z H locs ls cells slots h)
theorem g_if_lt {x : Int32} {off : Int} {tgt : Nat} (hX : Cx p s m args meth c ym cc nL ret xt D AC lo) (hd : decode cc pc = .ok (.ifCond .lt off, 3)) (ht : (pc : Int) + off = (tgt : Int)) (kt : x < 0 → G p l e R s m args below meth c nL D lo post thr w k n tgt lv st) (kf : ¬ x < 0 → G p l e R s m args below meth c nL D lo post thr w k n (pc + 3) lv st) : G p l e R s m args below meth c nL D lo post thr w k n pc lv (.int x :: st) :=
  fun H locs ls cells slots h => lv_if_lt hX.1.1 hX.1.2.1 hd ht (fun z => kt z H locs ls cells slots h) (fun z => kf z H locs ls cells slots h)
theorem g_icmp_lt {x y : Int32} {off : Int} {tgt : Nat} (hX : Cx p s m args meth c ym cc nL ret xt D AC lo) (hd : decode cc pc = .ok (.if_icmp .lt off, 3)) (ht : (pc : Int) + off = (tgt : Int)) (kt : x < y → G p l e R s m args below meth c nL D lo post thr w k n tgt lv st) (kf : ¬ x < y → G p l e R s m args below meth c nL D lo post thr w k n (pc + 3) lv st) : G p l e R s m args below meth c nL D lo post thr w k n pc lv (.int y :: .int x :: st) :=
  fun H locs ls cells slots h => lv_icmp_lt hX.1.1 hX.1.2.1 hd ht (fun z => kt z H locs ls cells slots h) (fun z => kf z H locs ls cells slots h)
theorem g_if_ge {x : Int32} {off : Int} {tgt : Nat} (hX : Cx p s m args meth c ym cc nL ret xt D AC lo) (hd : decode cc pc = .ok (.ifCond .ge off, 3)) (ht : (pc : Int) + off = (tgt : Int)) (kt : 0 ≤ x → G p l e R s m args below meth c nL D lo post thr w k n tgt lv st) (kf : ¬ 0 ≤ x → G p l e R s m args below meth c nL D lo post thr w k n (pc + 3) lv st) : G p l e R s m args below meth c nL D lo post thr w k n pc lv (.int x :: st) :=
  fun H locs ls cells slots h => lv_if_ge hX.1.1 hX.1.2.1 hd ht (fun z => kt z H locs ls cells slots h) (fun z => kf z H locs ls cells slots h)
theorem g_icmp_ge {x y : Int32} {off : Int} {tgt : Nat} (hX : Cx p s m args meth c ym cc nL ret xt D AC lo) (hd : decode cc pc = .ok (.if_icmp .ge off, 3)) (ht : (pc : Int) + off = (tgt : Int)) (kt : y ≤ x → G p l e R s m args below meth c nL D lo post thr w k n tgt lv st) (kf : ¬ y ≤ x → G p l e R s m args below meth c nL D lo post thr w k n (pc + 3) lv st) : G p l e R s m args below meth c nL D lo post thr w k n pc lv (.int y :: .int x :: st) :=
  fun H locs ls cells slots h => lv_icmp_ge hX.1.1 hX.1.2.1 hd ht (fun z => kt z H locs ls cells slots h) (fun z => kf z H locs ls cells slots h)
theorem g_if_gt {x : Int32} {off : Int} {tgt : Nat} (hX : Cx p s m args meth c ym cc nL ret xt D AC lo) (hd : decode cc pc = .ok (.ifCond .gt off, 3)) (ht : (pc : Int) + off = (tgt : Int)) (kt : 0 < x → G p l e R s m args below meth c nL D lo post thr w k n tgt lv st) (kf : ¬ 0 < x → G p l e R s m args below meth c nL D lo post thr w k n (pc + 3) lv st) : G p l e R s m args below meth c nL D lo post thr w k n pc lv (.int x :: st) :=
  fun H locs ls cells slots h => lv_if_gt hX.1.1 hX.1.2.1 hd ht (fun z => kt z H locs ls cells slots h) (fun z => kf z H locs ls cells slots h)
theorem g_icmp_gt {x y : Int32} {off : Int} {tgt : Nat} (hX : Cx p s m args meth c ym cc nL ret xt D AC lo) (hd : decode cc pc = .ok (.if_icmp .gt off, 3)) (ht : (pc : Int) + off = (tgt : Int)) (kt : y < x → G p l e R s m args below meth c nL D lo post thr w k n tgt lv st) (kf : ¬ y < x → G p l e R s m args below meth c nL D lo post thr w k n (pc + 3) lv st) : G p l e R s m args below meth c nL D lo post thr w k n pc lv (.int y :: .int x :: st) :=
  fun H locs ls cells slots h => lv_icmp_gt hX.1.1 hX.1.2.1 hd ht (fun z => kt z H locs ls cells slots h) (fun z => kf z H locs ls cells slots h)
theorem g_if_le {x : Int32} {off : Int} {tgt : Nat} (hX : Cx p s m args meth c ym cc nL ret xt D AC lo) (hd : decode cc pc = .ok (.ifCond .le off, 3)) (ht : (pc : Int) + off = (tgt : Int)) (kt : x ≤ 0 → G p l e R s m args below meth c nL D lo post thr w k n tgt lv st) (kf : ¬ x ≤ 0 → G p l e R s m args below meth c nL D lo post thr w k n (pc + 3) lv st) : G p l e R s m args below meth c nL D lo post thr w k n pc lv (.int x :: st) :=
  fun H locs ls cells slots h => lv_if_le hX.1.1 hX.1.2.1 hd ht (fun z => kt z H locs ls cells slots h) (fun z => kf z H locs ls cells slots h)
theorem g_icmp_le {x y : Int32} {off : Int} {tgt : Nat} (hX : Cx p s m args meth c ym cc nL ret xt D AC lo) (hd : decode cc pc = .ok (.if_icmp .le off, 3)) (ht : (pc : Int) + off = (tgt : Int)) (kt : x ≤ y → G p l e R s m args below meth c nL D lo post thr w k n tgt lv st) (kf : ¬ x ≤ y → G p l e R s m args below meth c nL D lo post thr w k n (pc + 3) lv st) : G p l e R s m args below meth c nL D lo post thr w k n pc lv (.int y :: .int x :: st) :=
  fun H locs ls cells slots h => lv_icmp_le hX.1.1 hX.1.2.1 hd ht (fun z => kt z H locs ls cells slots h) (fun z => kf z H locs ls cells slots h)
theorem g_goto {off : Int} {tgt : Nat} (hX : Cx p s m args meth c ym cc nL ret xt D AC lo) (hd : decode cc pc = .ok (.goto off, 3)) (ht : (pc : Int) + off = (tgt : Int)) (kk : G p l e R s m args below meth c nL D lo post thr w k n tgt lv st) : G p l e R s m args below meth c nL D lo post thr w k n pc lv st :=
  fun H locs ls cells slots h => lv_goto hX.1.1 hX.1.2.1 hd ht (kk H locs ls cells slots h)
theorem g_tableIn {dflt lo1 hi1 off : Int} {offs : Array Int} {len tgt : Nat} {x : Int32} (hX : Cx p s m args meth c ym cc nL ret xt D AC lo) (hd : decode cc pc = .ok (.tableswitch dflt lo1 hi1 offs, len)) (h1 : ¬ x.toInt < lo1) (h2 : ¬ hi1 < x.toInt) (ho : offs[(x.toInt - lo1).toNat]? = some off) (ht : (pc : Int) + off = (tgt : Int)) (kk : G p l e R s m args below meth c nL D lo post thr w k n tgt lv st) : G p l e R s m args below meth c nL D lo post thr w k n pc lv (.int x :: st) :=
  fun H locs ls cells slots h => lv_tableIn hX.1.1 hX.1.2.1 hd h1 h2 ho ht (kk H locs ls cells slots h)
theorem g_tableOut {dflt lo1 hi1 : Int} {offs : Array Int} {len tgt : Nat} {x : Int32} (hX : Cx p s m args meth c ym cc nL ret xt D AC lo) (hd : decode cc pc = .ok (.tableswitch dflt lo1 hi1 offs, len)) (hx : x.toInt < lo1 ∨ hi1 < x.toInt) (ht : (pc : Int) + dflt = (tgt : Int)) (kk : G p l e R s m args below meth c nL D lo post thr w k n tgt lv st) : G p l e R s m args below meth c nL D lo post thr w k n pc lv (.int x :: st) :=
  fun H locs ls cells slots h => lv_tableOut hX.1.1 hX.1.2.1 hd hx ht (kk H locs ls cells slots h)
theorem g_ldc {idx : Nat} {v : Int32} (hX : Cx p s m args meth c ym cc nL ret xt D AC lo) (hw : Cond.constant ym.cls idx v ∈ TT) (hd : decode cc pc = .ok (.ldc idx, 2)) (kk : G p l e R s m args below meth c nL D lo post thr w k n (pc + 2) lv (.int v :: st)) : G p l e R s m args below meth c nL D lo post thr w k n pc lv st :=
  fun H locs ls cells slots h => lv_ldc hX.1.1 hX.1.2.1 hX.own (hX.ts _ hw) hd (kk H locs ls cells slots h)
theorem g_ldc2 {idx : Nat} {v : Int64} (hX : Cx p s m args meth c ym cc nL ret xt D AC lo) (hw : Cond.constantLong ym.cls idx v ∈ TT) (hd : decode cc pc = .ok (.ldc2_w idx, 3)) (kk : G p l e R s m args below meth c nL D lo post thr w k n (pc + 3) lv (.long v :: st)) : G p l e R s m args below meth c nL D lo post thr w k n pc lv st :=
  fun H locs ls cells slots h => lv_ldc2 hX.1.1 hX.1.2.1 hX.own (hX.ts _ hw) hd (kk H locs ls cells slots h)
theorem g_iret {v : Int32} (hX : Cx p s m args meth c ym cc nL ret xt D AC lo) (hr : ret = some .int) (hd : decode cc pc = .ok (.ireturn, 1)) (hp : post (some (.int v)) w) : G p l e R s m args below meth c nL D lo post thr w k n pc lv [.int v] :=
  fun H locs ls cells slots h => W.widen (k := R.cells) (n := R.slots) (by have := h.2.2.2.1; omega) (by have := h.2.2.2.2; omega) (W.imp (W.iret (Qc := fun _ st o t => QC D lo post thr st o t) (free := loA lo) hX.1.1 hX.1.2.1 (hX.2.2.2.1.trans hr) (fun t ht hW => ⟨w, by rw [ht]; exact h.2.1, by rw [ht]; exact va_S_nil h.2.2.1, Or.inl ⟨_, rfl, hp⟩⟩) h.2.2.1.2.2 hd hX.2.2.1) (fun t q => by obtain ⟨o, a, b, c1, L, ⟨-, d, f⟩, g⟩ := q; exact ⟨o, a, b, c1, L, d, f, g⟩))
theorem g_lret {v : Int64} (hX : Cx p s m args meth c ym cc nL ret xt D AC lo) (hr : ret = some .long) (hd : decode cc pc = .ok (.lreturn, 1)) (hp : post (some (.long v)) w) : G p l e R s m args below meth c nL D lo post thr w k n pc lv [.long v] :=
  fun H locs ls cells slots h => W.widen (k := R.cells) (n := R.slots) (by have := h.2.2.2.1; omega) (by have := h.2.2.2.2; omega) (W.imp (W.lret (Qc := fun _ st o t => QC D lo post thr st o t) (free := loA lo) hX.1.1 hX.1.2.1 (hX.2.2.2.1.trans hr) (fun t ht hW => ⟨w, by rw [ht]; exact h.2.1, by rw [ht]; exact va_S_nil h.2.2.1, Or.inl ⟨_, rfl, hp⟩⟩) h.2.2.1.2.2 hd hX.2.2.1) (fun t q => by obtain ⟨o, a, b, c1, L, ⟨-, d, f⟩, g⟩ := q; exact ⟨o, a, b, c1, L, d, f, g⟩))
theorem g_zret {v : Int32} (hX : Cx p s m args meth c ym cc nL ret xt D AC lo) (hr : ret = some .boolean) (hd : decode cc pc = .ok (.ireturn, 1)) (hv : v = 0 ∨ v = 1) (hp : post (some (.int v)) w) : G p l e R s m args below meth c nL D lo post thr w k n pc lv [.int v] :=
  fun H locs ls cells slots h => W.widen (k := R.cells) (n := R.slots) (by have := h.2.2.2.1; omega) (by have := h.2.2.2.2; omega) (W.imp (W.zret (ty := .boolean) (Qc := fun _ st o t => QC D lo post thr st o t) (free := loA lo) hX.1.1 hX.1.2.1 (hX.2.2.2.1.trans hr) (by rcases hv with rfl | rfl <;> rfl) (fun t ht hW => ⟨w, by rw [ht]; exact h.2.1, by rw [ht]; exact va_S_nil h.2.2.1, Or.inl ⟨_, rfl, hp⟩⟩) h.2.2.1.2.2 hd hX.2.2.1) (fun t q => by obtain ⟨o, a, b, c1, L, ⟨-, d, f⟩, g⟩ := q; exact ⟨o, a, b, c1, L, d, f, g⟩))
theorem g_vret (hX : Cx p s m args meth c ym cc nL ret xt D AC lo) (hr : ret = none) (hd : decode cc pc = .ok (.return_, 1)) (hp : post none w) : G p l e R s m args below meth c nL D lo post thr w k n pc lv [] :=
  fun H locs ls cells slots h => W.widen (k := R.cells) (n := R.slots) (by have := h.2.2.2.1; omega) (by have := h.2.2.2.2; omega) (W.imp (W.vret (Qc := fun _ st o t => QC D lo post thr st o t) (free := loA lo) hX.1.1 hX.1.2.1 (hX.2.2.2.1.trans hr) (fun t ht hW => ⟨w, by rw [ht]; exact h.2.1, by rw [ht]; exact va_S_nil h.2.2.1, Or.inl ⟨_, rfl, hp⟩⟩) h.2.2.1.2.2 hd hX.2.2.1) (fun t q => by obtain ⟨o, a, b, c1, L, ⟨-, d, f⟩, g⟩ := q; exact ⟨o, a, b, c1, L, d, f, g⟩))
theorem g_getf {i ci kf idx Nf : Nat} {fs : List Value} {C ref : String} {T : u_T} {v : Value} {a : Nat} (hX : Cx p s m args meth c ym cc nL ret xt D AC lo) (hi : i < w.1) (ha : w.2.1 i = a) (he : w.2.2 i = .inr (ci, fs)) (hc : CL[ci]? = some (C, T, Nf)) (hin : ∀ x ∈ u_ws C T Nf, x ∈ TT) (hk : kf < Nf) (hl : Cond.fieldLink ym.cls idx ref (T kf).2.1 (T kf).2.2.1 ∈ TT) (hsame : ref = (T kf).1 ∨ Cond.sameField ref (T kf).1 (T kf).2.1 (T kf).2.2.1 ∈ TT) (hv : fs[kf]? = some v) (hd : decode cc pc = .ok (.getfield idx, 3)) (kk : G p l e R s m args below meth c nL D lo post thr w k n (pc + 3) lv (v :: st)) : G p l e R s m args below meth c nL D lo post thr w k n pc lv (.ref a :: st) :=
  by subst ha; exact fun H locs ls cells slots h => va_get hX.1.1 hX.1.2.1 hX.ts hin hX.own hX.2.1.1 h.2.1.1 i (ww_get hi he) hc kf hk (hX.ts _ hl) (fun x9 h9 => by
    rcases hsame with e | e
    · rw [e]; exact h9
    · exact u_same (hX.ts _ e) x9 h9) hv hd (kk H locs ls cells slots h)
theorem g_putf {i ci kf idx Nf : Nat} {fs : List Value} {C ref : String} {T : u_T} {v : Value} {ty0 : Nat → FieldType} {ty : FieldType} {w' : Wst} {a : Nat} (hX : Cx p s m args meth c ym cc nL ret xt D AC lo) (hi : i < w.1) (ha : w.2.1 i = a) (he : w.2.2 i = .inr (ci, fs)) (hc : CL[ci]? = some (C, T, Nf)) (hin : ∀ x ∈ u_ws C T Nf, x ∈ TT) (hty : ∀ k, k < Nf → parseFieldDescriptor (T k).2.2.1 = some (ty0 k)) (hnm : ∀ a, a < Nf → ∀ b, b < Nf → a ≠ b → (T a).2.1 ≠ (T b).2.1) (hk : kf < Nf) (hl : Cond.fieldLink ym.cls idx ref (T kf).2.1 (T kf).2.2.1 ∈ TT) (hsame : ref = (T kf).1 ∨ Cond.sameField ref (T kf).1 (T kf).2.1 (T kf).2.2.1 ∈ TT) (hfin : (T kf).2.2.2 = false) (ht : parseFieldDescriptor (T kf).2.2.1 = some ty) (hn : narrow ty v = v) (hfit : fits ty v = true) (hlen : kf < fs.length) (hd : decode cc pc = .ok (.putfield idx, 3)) (hw : wS w i (.inr (ci, fs.set kf v)) = w') (kk : G p l e R s m args below meth c nL D lo post thr w' k n (pc + 3) lv st) : G p l e R s m args below meth c nL D lo post thr w k n pc lv (v :: .ref a :: st) :=
  by subst ha; exact fun H locs ls cells slots h => va_put hX.1.1 hX.1.2.1 hX.ts hin ty0 hty hnm hX.own hX.2.1.1 h.2.1.1 h.2.1.2 h.2.2.1 i (ww_get hi he) hc kf hk (hX.ts _ hl) (fun x9 h9 => by
    rcases hsame with e | e
    · rw [e]; exact h9
    · exact u_same (hX.ts _ e) x9 h9) hfin ht hn hfit hlen hd (fun H1 locs1 a1 a2 a3 => by
    rw [ww_set, hw] at a1 a2
    exact kk H1 locs1 ls cells slots ⟨h.1, ⟨a1, a2⟩, a3, h.2.2.2⟩)
theorem g_putF {i ci kf idx Nf : Nat} {fs : List Value} {C ref : String} {T : u_T} {v : Value} {ty0 : Nat → FieldType} {ty : FieldType} {w' : Wst} {a : Nat} (hX : Cx p s m args meth c ym cc nL ret xt D AC lo) (hi : i < w.1) (ha : w.2.1 i = a) (he : w.2.2 i = .inr (ci, fs)) (hc : CL[ci]? = some (C, T, Nf)) (hin : ∀ x ∈ u_ws C T Nf, x ∈ TT) (hty : ∀ k, k < Nf → parseFieldDescriptor (T k).2.2.1 = some (ty0 k)) (hnm : ∀ a, a < Nf → ∀ b, b < Nf → a ≠ b → (T a).2.1 ≠ (T b).2.1) (hk : kf < Nf) (hl : Cond.fieldLink ym.cls idx ref (T kf).2.1 (T kf).2.2.1 ∈ TT) (hsame : ref = (T kf).1 ∨ Cond.sameField ref (T kf).1 (T kf).2.1 (T kf).2.2.1 ∈ TT) (hfin : (T kf).2.2.2 = true) (hini : ym.name = "<init>") (hdecl : (T kf).1 = ym.cls) (ht : parseFieldDescriptor (T kf).2.2.1 = some ty) (hn : narrow ty v = v) (hfit : fits ty v = true) (hlen : kf < fs.length) (hd : decode cc pc = .ok (.putfield idx, 3)) (hw : wS w i (.inr (ci, fs.set kf v)) = w') (kk : G p l e R s m args below meth c nL D lo post thr w' k n (pc + 3) lv st) : G p l e R s m args below meth c nL D lo post thr w k n pc lv (v :: .ref a :: st) :=
  by subst ha; exact fun H locs ls cells slots h => va_putF hX.1.1 hX.1.2.1 hX.ts hin ty0 hty hnm hX.own hX.2.1.1 h.2.1.1 h.2.1.2 h.2.2.1 i (ww_get hi he) hc kf hk (hX.ts _ hl) (fun x9 h9 => by
    rcases hsame with e | e
    · rw [e]; exact h9
    · exact u_same (hX.ts _ e) x9 h9) hfin (hX.2.2.2.2.1.trans hini) hdecl ht hn hfit hlen hd (fun H1 locs1 a1 a2 a3 => by
    rw [ww_set, hw] at a1 a2
    exact kk H1 locs1 ls cells slots ⟨h.1, ⟨a1, a2⟩, a3, h.2.2.2⟩)
theorem g_iald {i N1 : Nat} {f : Nat → Int32} {x : Int32} {a : Nat} (hX : Cx p s m args meth c ym cc nL ret xt D AC lo) (hi : i < w.1) (ha : w.2.1 i = a) (he : w.2.2 i = .inl (AC 0, N1, .inl f)) (hin : vp_in x N1) (hd : decode cc pc = .ok (.iaload, 1)) (kk : G p l e R s m args below meth c nL D lo post thr w k n (pc + 1) lv (.int (f x.toNatClampNeg) :: st)) : G p l e R s m args below meth c nL D lo post thr w k n pc lv (.int x :: .ref a :: st) :=
  by subst ha; exact fun H locs ls cells slots h => va_iald hX.1.1 hX.1.2.1 hX.2.1.1 h.2.1.1 i 0 (ww_get hi he) rfl hin hd (kk H locs ls cells slots h)
theorem g_zald {i N1 : Nat} {f : Nat → Int32} {x : Int32} {a : Nat} (hX : Cx p s m args meth c ym cc nL ret xt D AC lo) (hi : i < w.1) (ha : w.2.1 i = a) (he : w.2.2 i = .inl (AC 2, N1, .inl f)) (hin : vp_in x N1) (hd : decode cc pc = .ok (.baload, 1)) (kk : G p l e R s m args below meth c nL D lo post thr w k n (pc + 1) lv (.int (f x.toNatClampNeg) :: st)) : G p l e R s m args below meth c nL D lo post thr w k n pc lv (.int x :: .ref a :: st) :=
  by subst ha; exact fun H locs ls cells slots h => va_zald hX.1.1 hX.1.2.1 hX.2.1.1 h.2.1.1 i 2 (ww_get hi he) rfl hin hd (kk H locs ls cells slots h)
theorem g_lald {i N1 : Nat} {f : Nat → Int64} {x : Int32} {a : Nat} (hX : Cx p s m args meth c ym cc nL ret xt D AC lo) (hi : i < w.1) (ha : w.2.1 i = a) (he : w.2.2 i = .inl (AC 1, N1, .inr (.inl f))) (hin : vp_in x N1) (hd : decode cc pc = .ok (.laload, 1)) (kk : G p l e R s m args below meth c nL D lo post thr w k n (pc + 1) lv (.long (f x.toNatClampNeg) :: st)) : G p l e R s m args below meth c nL D lo post thr w k n pc lv (.int x :: .ref a :: st) :=
  by subst ha; exact fun H locs ls cells slots h => va_lald hX.1.1 hX.1.2.1 hX.2.1.1 h.2.1.1 i 1 (ww_get hi he) rfl hin hd (kk H locs ls cells slots h)
theorem g_aald {i N1 q : Nat} (ti : Nat) {C : String} {f : Nat → Option Nat} {x : Int32} {a b : Nat} (hX : Cx p s m args meth c ym cc nL ret xt D AC lo) (hi : i < w.1) (ha : w.2.1 i = a) (he : w.2.2 i = .inl (AC ti, N1, .inr (.inr (.inr (.inr f))))) (ht : (tyA AC)[ti]? = some (AC ti, .object C)) (hin : vp_in x N1) (hq : f x.toNatClampNeg = some q) (hd : decode cc pc = .ok (.aaload, 1)) (kk : G p l e R s m args below meth c nL D lo post thr w k n (pc + 1) lv (.ref q :: st)) : G p l e R s m args below meth c nL D lo post thr w k n pc lv (.int x :: .ref a :: st) :=
  by subst ha; exact fun H locs ls cells slots h => va_aldq hX.1.1 hX.1.2.1 hX.2.1.1 h.2.1.1 i ti (ww_get hi he) ht hin hd (by rw [hq]; exact kk H locs ls cells slots h)
theorem g_iast {i N1 : Nat} {f : Nat → Int32} {x : Int32} {v : Int32} {w' : Wst} {a : Nat} (hX : Cx p s m args meth c ym cc nL ret xt D AC lo) (hi : i < w.1) (ha : w.2.1 i = a) (he : w.2.2 i = .inl (AC 0, N1, .inl f)) (hin : vp_in x N1) (hd : decode cc pc = .ok (.iastore, 1)) (hw : wS w i (.inl (AC 0, N1, .inl (upd f x.toNatClampNeg v))) = w') (kk : G p l e R s m args below meth c nL D lo post thr w' k n (pc + 1) lv st) : G p l e R s m args below meth c nL D lo post thr w k n pc lv (.int v :: .int x :: .ref a :: st) :=
  by subst ha; exact fun H locs ls cells slots h => va_iast hX.1.1 hX.1.2.1 hX.2.1.1 h.2.1.1 h.2.1.2 h.2.2.1 i 0 (ww_get hi he) rfl hin hd (fun H1 locs1 a1 a2 a3 => by
    rw [ww_set, hw] at a1 a2
    exact kk H1 locs1 ls cells slots ⟨h.1, ⟨a1, a2⟩, a3, h.2.2.2⟩)
theorem g_zast {i N1 : Nat} {f : Nat → Int32} {x : Int32} {v : Int32} {w' : Wst} {a : Nat} (hX : Cx p s m args meth c ym cc nL ret xt D AC lo) (hi : i < w.1) (ha : w.2.1 i = a) (he : w.2.2 i = .inl (AC 2, N1, .inl f)) (hin : vp_in x N1) (hd : decode cc pc = .ok (.bastore, 1)) (hw : wS w i (.inl (AC 2, N1, .inl (upd f x.toNatClampNeg (vp_nar .boolean v)))) = w') (kk : G p l e R s m args below meth c nL D lo post thr w' k n (pc + 1) lv st) : G p l e R s m args below meth c nL D lo post thr w k n pc lv (.int v :: .int x :: .ref a :: st) :=
  by subst ha; exact fun H locs ls cells slots h => va_zast hX.1.1 hX.1.2.1 hX.2.1.1 h.2.1.1 h.2.1.2 h.2.2.1 i 2 (ww_get hi he) rfl hin hd (fun H1 locs1 a1 a2 a3 => by
    rw [ww_set, hw] at a1 a2
    exact kk H1 locs1 ls cells slots ⟨h.1, ⟨a1, a2⟩, a3, h.2.2.2⟩)
theorem g_last {i N1 : Nat} {f : Nat → Int64} {x : Int32} {v : Int64} {w' : Wst} {a : Nat} (hX : Cx p s m args meth c ym cc nL ret xt D AC lo) (hi : i < w.1) (ha : w.2.1 i = a) (he : w.2.2 i = .inl (AC 1, N1, .inr (.inl f))) (hin : vp_in x N1) (hd : decode cc pc = .ok (.lastore, 1)) (hw : wS w i (.inl (AC 1, N1, .inr (.inl (vp_updL f x.toNatClampNeg v)))) = w') (kk : G p l e R s m args below meth c nL D lo post thr w' k n (pc + 1) lv st) : G p l e R s m args below meth c nL D lo post thr w k n pc lv (.long v :: .int x :: .ref a :: st) :=
  by subst ha; exact fun H locs ls cells slots h => va_last hX.1.1 hX.1.2.1 hX.2.1.1 h.2.1.1 h.2.1.2 h.2.2.1 i 1 (ww_get hi he) rfl hin hd (fun H1 locs1 a1 a2 a3 => by
    rw [ww_set, hw] at a1 a2
    exact kk H1 locs1 ls cells slots ⟨h.1, ⟨a1, a2⟩, a3, h.2.2.2⟩)
theorem g_aast {i j ci N1 : Nat} (ti : Nat) {Ec : String} {f : Nat → Option Nat} {fs : List Value} {r : vw_C} {x : Int32} {w' : Wst} {a b : Nat} (hX : Cx p s m args meth c ym cc nL ret xt D AC lo) (hi : i < w.1) (ha : w.2.1 i = a) (he : w.2.2 i = .inl (AC ti, N1, .inr (.inr (.inr (.inr f))))) (ht : (tyA AC)[ti]? = some (AC ti, .object Ec)) (hca : Cond.castable r.1 Ec ∈ NWL) (hj : j < w.1) (hb : w.2.1 j = b) (hv : w.2.2 j = .inr (ci, fs)) (hc : CL[ci]? = some r) (hin : vp_in x N1) (hd : decode cc pc = .ok (.aastore, 1)) (hw : wS w i (.inl (AC ti, N1, .inr (.inr (.inr (.inr (va_up f x.toNatClampNeg (some b))))))) = w') (kk : G p l e R s m args below meth c nL D lo post thr w' k n (pc + 1) lv st) : G p l e R s m args below meth c nL D lo post thr w k n pc lv (.ref b :: .int x :: .ref a :: st) :=
  by subst ha; subst hb; exact fun H locs ls cells slots h => va_astqO hX.1.1 hX.1.2.1 hX.2.1.1 h.2.1.1 h.2.1.2 h.2.2.1 i ti j ci (ww_get hi he) ht (hX.2.1.2.1 _ hca) (ww_get hj hv) hc hin hd (fun H1 locs1 a1 a2 a3 => by
    rw [ww_set, hw] at a1 a2
    exact kk H1 locs1 ls cells slots ⟨h.1, ⟨a1, a2⟩, a3, h.2.2.2⟩)
theorem g_aastS {i j ci N1 : Nat} (ti : Nat) {f : Nat → Option Nat} {fs : List Value} {r : vw_C} {x : Int32} {w' : Wst} {a b : Nat} (hX : Cx p s m args meth c ym cc nL ret xt D AC lo) (hi : i < w.1) (ha : w.2.1 i = a) (he : w.2.2 i = .inl (AC ti, N1, .inr (.inr (.inr (.inr f))))) (ht : (tyA AC)[ti]? = some (AC ti, .object r.1)) (hj : j < w.1) (hb : w.2.1 j = b) (hv : w.2.2 j = .inr (ci, fs)) (hc : CL[ci]? = some r) (hin : vp_in x N1) (hd : decode cc pc = .ok (.aastore, 1)) (hw : wS w i (.inl (AC ti, N1, .inr (.inr (.inr (.inr (va_up f x.toNatClampNeg (some b))))))) = w') (kk : G p l e R s m args below meth c nL D lo post thr w' k n (pc + 1) lv st) : G p l e R s m args below meth c nL D lo post thr w k n pc lv (.ref b :: .int x :: .ref a :: st) :=
  by subst ha; subst hb; exact fun H locs ls cells slots h => va_astq hX.1.1 hX.1.2.1 hX.2.1.1 h.2.1.1 h.2.1.2 h.2.2.1 i ti j ci (ww_get hi he) ht (ww_get hj hv) hc hin hd (fun H1 locs1 a1 a2 a3 => by
    rw [ww_set, hw] at a1 a2
    exact kk H1 locs1 ls cells slots ⟨h.1, ⟨a1, a2⟩, a3, h.2.2.2⟩)
theorem g_alen {i : Nat} (ti : Nat) {x : vp_A} {ty : FieldType} {v : Int32} {a : Nat} (hX : Cx p s m args meth c ym cc nL ret xt D AC lo) (hi : i < w.1) (ha : w.2.1 i = a) (he : w.2.2 i = .inl (AC ti, x)) (ht : (tyA AC)[ti]? = some (AC ti, ty)) (hv : Int32.ofNat x.1 = v) (hd : decode cc pc = .ok (.arraylength, 1)) (kk : G p l e R s m args below meth c nL D lo post thr w k n (pc + 1) lv (.int v :: st)) : G p l e R s m args below meth c nL D lo post thr w k n pc lv (.ref a :: st) :=
  by subst ha; exact fun H locs ls cells slots h => va_alen hX.1.1 hX.1.2.1 hX.2.1.1 h.2.1.1 i ti (ww_get hi he) ht hv hd (kk H locs ls cells slots h)
theorem g_new {ci idx Nf : Nat} {fs : List Value} {C : String} {T : u_T} {ty : Nat → FieldType} (hX : Cx p s m args meth c ym cc nL ret xt D AC lo) (hc : CL[ci]? = some (C, T, Nf)) (hin : ∀ x ∈ u_ws C T Nf, x ∈ TT) (hty : ∀ k, k < Nf → parseFieldDescriptor (T k).2.2.1 = some (ty k)) (hcl : Cond.classLink ym.cls idx C ∈ TT) (hinst : Cond.instantiable C Nf ∈ TT) (hini : Cond.initialized C ∈ TT) (hfs : ∀ j, j < Nf → defaultValue (ty j) = vp_V fs j) (hd : decode cc pc = .ok (.new idx, 3)) (kk : ∀ q : Nat, G p l e R s m args below meth c nL D lo post thr (wN w q (.inr (ci, fs))) k n (pc + 3) lv (.ref q :: st)) : G p l e R s m args below meth c nL D lo post thr w (k + 1) (n + Nf) pc lv st :=
  fun H locs ls cells slots h => va_new hX.1.1 hX.1.2.1 hX.ts hin ty hty hX.own (hX.ts _ hcl) (hX.ts _ hinst) (hX.ts _ hini) hX.2.1.1 h.2.1.1 h.2.1.2 h.2.2.1 (fun q hq => Nat.le_trans hX.2.2.2.2.2.1 hq) hc hfs (by have := h.2.2.2.1; omega) (by have := h.2.2.2.2; omega) hd (fun q H1 a1 a2 a3 => by
    rw [ww_push] at a1 a2
    exact kk q H1 locs ls (cells + 1) (slots + Nf) ⟨h.1, ⟨a1, a2⟩, a3, by have := h.2.2.2.1; omega, by have := h.2.2.2.2; omega⟩)
theorem g_newaI {x : Int32} {N1 : Nat} (hX : Cx p s m args meth c ym cc nL ret xt D AC lo) (harr : Cond.arrayClass .int ∈ TT) (hx : ¬ x < 0) (hN : x.toNatClampNeg = N1) (hb : N1 * componentBytes .int ≤ 536870912) (hd : decode cc pc = .ok (.newarray .int, 2)) (kk : ∀ q : Nat, G p l e R s m args below meth c nL D lo post thr (wN w q (.inl (AC 0, N1, .inl (fun _ => 0)))) k n (pc + 2) lv (.ref q :: st)) : G p l e R s m args below meth c nL D lo post thr w (k + 1) (n + N1) pc lv (.int x :: st) :=
  fun H locs ls cells slots h => va_newa (atype := .int) (ty := .int) (a0 := (N1, .inl (fun _ => 0))) hX.1.1 hX.1.2.1 (hX.ts _ harr) rfl hX.2.1.1 h.2.1.1 h.2.1.2 h.2.2.1 (fun q hq => Nat.le_trans hX.2.2.2.2.2.1 hq) (fun _ => rfl) hx hN hb (by have := h.2.2.2.1; omega) (by have := h.2.2.2.2; omega) hd (fun q cA H1 a0 a1 a2 a3 => by
    have e : cA = AC 0 := by
      have h1 : s.vm.findClass _ = some cA := (a0.2 5 (cA, .int) rfl).2
      have h2 : s.vm.findClass _ = some (AC 0) := (hX.2.1.1.2 0 (AC 0, .int) rfl).2
      exact Option.some.inj (h1.symm.trans h2)
    subst e
    rw [ww_push] at a1 a2
    exact kk q H1 locs ls (cells + 1) (slots + N1) ⟨h.1, ⟨a1, a2⟩, a3, by have := h.2.2.2.1; omega, by have := h.2.2.2.2; omega⟩)
theorem g_newaL {x : Int32} {N1 : Nat} (hX : Cx p s m args meth c ym cc nL ret xt D AC lo) (harr : Cond.arrayClass .long ∈ TT) (hx : ¬ x < 0) (hN : x.toNatClampNeg = N1) (hb : N1 * componentBytes .long ≤ 536870912) (hd : decode cc pc = .ok (.newarray .long, 2)) (kk : ∀ q : Nat, G p l e R s m args below meth c nL D lo post thr (wN w q (.inl (AC 1, N1, .inr (.inl (fun _ => 0))))) k n (pc + 2) lv (.ref q :: st)) : G p l e R s m args below meth c nL D lo post thr w (k + 1) (n + N1) pc lv (.int x :: st) :=
  fun H locs ls cells slots h => va_newa (atype := .long) (ty := .long) (a0 := (N1, .inr (.inl (fun _ => 0)))) hX.1.1 hX.1.2.1 (hX.ts _ harr) rfl hX.2.1.1 h.2.1.1 h.2.1.2 h.2.2.1 (fun q hq => Nat.le_trans hX.2.2.2.2.2.1 hq) (fun _ => rfl) hx hN hb (by have := h.2.2.2.1; omega) (by have := h.2.2.2.2; omega) hd (fun q cA H1 a0 a1 a2 a3 => by
    have e : cA = AC 1 := by
      have h1 : s.vm.findClass _ = some cA := (a0.2 5 (cA, .long) rfl).2
      have h2 : s.vm.findClass _ = some (AC 1) := (hX.2.1.1.2 1 (AC 1, .long) rfl).2
      exact Option.some.inj (h1.symm.trans h2)
    subst e
    rw [ww_push] at a1 a2
    exact kk q H1 locs ls (cells + 1) (slots + N1) ⟨h.1, ⟨a1, a2⟩, a3, by have := h.2.2.2.1; omega, by have := h.2.2.2.2; omega⟩)
theorem g_newaZ {x : Int32} {N1 : Nat} (hX : Cx p s m args meth c ym cc nL ret xt D AC lo) (harr : Cond.arrayClass .boolean ∈ TT) (hx : ¬ x < 0) (hN : x.toNatClampNeg = N1) (hb : N1 * componentBytes .boolean ≤ 536870912) (hd : decode cc pc = .ok (.newarray .boolean, 2)) (kk : ∀ q : Nat, G p l e R s m args below meth c nL D lo post thr (wN w q (.inl (AC 2, N1, .inl (fun _ => 0)))) k n (pc + 2) lv (.ref q :: st)) : G p l e R s m args below meth c nL D lo post thr w (k + 1) (n + N1) pc lv (.int x :: st) :=
  fun H locs ls cells slots h => va_newa (atype := .boolean) (ty := .boolean) (a0 := (N1, .inl (fun _ => 0))) hX.1.1 hX.1.2.1 (hX.ts _ harr) rfl hX.2.1.1 h.2.1.1 h.2.1.2 h.2.2.1 (fun q hq => Nat.le_trans hX.2.2.2.2.2.1 hq) (fun _ => rfl) hx hN hb (by have := h.2.2.2.1; omega) (by have := h.2.2.2.2; omega) hd (fun q cA H1 a0 a1 a2 a3 => by
    have e : cA = AC 2 := by
      have h1 : s.vm.findClass _ = some cA := (a0.2 5 (cA, .boolean) rfl).2
      have h2 : s.vm.findClass _ = some (AC 2) := (hX.2.1.1.2 2 (AC 2, .boolean) rfl).2
      exact Option.some.inj (h1.symm.trans h2)
    subst e
    rw [ww_push] at a1 a2
    exact kk q H1 locs ls (cells + 1) (slots + N1) ⟨h.1, ⟨a1, a2⟩, a3, by have := h.2.2.2.1; omega, by have := h.2.2.2.2; omega⟩)
theorem g_newq {x : Int32} {N1 idx : Nat} (ti : Nat) {C : String} (hX : Cx p s m args meth c ym cc nL ret xt D AC lo) (hcl : Cond.classLink ym.cls idx C ∈ TT) (ht : (tyA AC)[ti]? = some (AC ti, .object C)) (hx : ¬ x < 0) (hN : x.toNatClampNeg = N1) (hb : N1 * 4 ≤ 536870912) (hd : decode cc pc = .ok (.anewarray idx, 3)) (hao : va_AO C s) (kk : ∀ q : Nat, G p l e R s m args below meth c nL D lo post thr (wN w q (.inl (AC ti, N1, .inr (.inr (.inr (.inr (fun _ => none))))))) k n (pc + 3) lv (.ref q :: st)) : G p l e R s m args below meth c nL D lo post thr w (k + 1) (n + N1) pc lv (.int x :: st) :=
  fun H locs ls cells slots h => va_newq hX.1.1 hX.1.2.1 hX.own (hX.ts _ hcl) hao hX.2.1.1 h.2.1.1 h.2.1.2 h.2.2.1 (fun q hq => Nat.le_trans hX.2.2.2.2.2.1 hq) hx hN hb (by have := h.2.2.2.1; omega) (by have := h.2.2.2.2; omega) hd (fun q cA H1 a0 a1 a2 a3 => by
    have e : cA = AC ti := by
      obtain ⟨_, _, _, _, _, h1⟩ := (a0.2 5 (cA, .object C) rfl).2
      obtain ⟨_, _, _, _, _, h2⟩ := (hX.2.1.1.2 ti (AC ti, .object C) ht).2
      exact Option.some.inj (h1.symm.trans h2)
    subst e
    rw [ww_push] at a1 a2
    exact kk q H1 locs ls (cells + 1) (slots + N1) ⟨h.1, ⟨a1, a2⟩, a3, by have := h.2.2.2.1; omega, by have := h.2.2.2.2; omega⟩)
theorem g_maxI {x z : Int32} {idx : Nat} (hX : Cx p s m args meth c ym cc nL ret xt D AC lo) (hw : Cond.methodLink ym.cls idx Lib.Math.max.name ∈ TT ∧ Cond.static Lib.Math.max.name ∈ TT ∧ Cond.initialized "java/lang/Math" ∈ TT ∧ Cond.code Lib.Math.max.name Lib.Math.max.code 2 (some .int) ∈ TT) (hd : decode cc pc = .ok (.invokestatic idx, 3)) (hf : 1 ≤ R.frames) (hlo : (st.map fun v => v.category).sum + 13 ≤ R.locals) (kk : G p l e R s m args below meth c nL D lo post thr w k n (pc + 3) lv (.int (if x < z then z else x) :: st)) : G p l e R s m args below meth c nL D lo post thr w k n pc lv (.int z :: .int x :: st) :=
  fun H locs ls cells slots h => va_mmax hX.1.1 hX.1.2.1 (hX.1.2.2.1.trans h.1.1.symm) hX.own (hX.ts _ hw.1) (hX.ts _ hw.2.1) (hX.ts _ hw.2.2.1) (hX.ts _ hw.2.2.2) hf hlo (by have := h.2.2.2.1; omega) (by have := h.2.2.2.2; omega) hd (kk H locs ls cells slots h)
theorem g_maxL {x z : Int64} {idx : Nat} (hX : Cx p s m args meth c ym cc nL ret xt D AC lo) (hw : Cond.methodLink ym.cls idx Lib.MathLoose.max_long.x ∈ TT ∧ Cond.static Lib.MathLoose.max_long.x ∈ TT ∧ Cond.initialized "java/lang/Math" ∈ TT ∧ Cond.code Lib.MathLoose.max_long.x Lib.MathLoose.max_long.code 4 (some .long) ∈ TT) (hd : decode cc pc = .ok (.invokestatic idx, 3)) (hf : 1 ≤ R.frames) (hlo : (st.map fun v => v.category).sum + 15 ≤ R.locals) (kk : G p l e R s m args below meth c nL D lo post thr w k n (pc + 3) lv (.long (if z < x then x else z) :: st)) : G p l e R s m args below meth c nL D lo post thr w k n pc lv (.long z :: .long x :: st) :=
  fun H locs ls cells slots h => va_mmax_long hX.1.1 hX.1.2.1 (hX.1.2.2.1.trans h.1.1.symm) hX.own (hX.ts _ hw.1) (hX.ts _ hw.2.1) (hX.ts _ hw.2.2.1) (hX.ts _ hw.2.2.2) hf hlo (by have := h.2.2.2.1; omega) (by have := h.2.2.2.2; omega) hd (kk H locs ls cells slots h)
theorem g_copyI {i j N0 N1 idx a b : Nat} {f g : Nat → Int32} {sp dp cn : Int32} {w' : Wst} (hX : Cx p s m args meth c ym cc nL ret xt D AC lo) (hw : Cond.methodLink ym.cls idx arraycopyName ∈ TT ∧ Cond.native arraycopyName ∈ TT ∧ Cond.static arraycopyName ∈ TT ∧ Cond.initialized "java/lang/System" ∈ TT) (hi : i < w.1) (ha : w.2.1 i = a) (he : w.2.2 i = .inl (AC 0, N0, .inl f)) (hj : j < w.1) (hb : w.2.1 j = b) (hg : w.2.2 j = .inl (AC 0, N1, .inl g)) (h1 : ¬ sp < 0) (h2 : ¬ dp < 0) (h3 : ¬ cn < 0) (h4 : sp.toNatClampNeg + cn.toNatClampNeg ≤ N0) (h5 : dp.toNatClampNeg + cn.toNatClampNeg ≤ N1) (hd : decode cc pc = .ok (.invokestatic idx, 3)) (hf : 1 ≤ R.frames) (hlo : (st.map fun v => v.category).sum + (nativeFrameWords "java/lang/System" "arraycopy" 5 + 11) ≤ R.locals) (hs : wS w j (.inl (AC 0, N1, .inl (va_cpy f g sp.toNatClampNeg dp.toNatClampNeg cn.toNatClampNeg))) = w') (kk : G p l e R s m args below meth c nL D lo post thr w' k n (pc + 3) lv st) : G p l e R s m args below meth c nL D lo post thr w k n pc lv (.int cn :: .int dp :: .ref b :: .int sp :: .ref a :: st) := by
  subst ha; subst hb
  exact fun H locs ls cells slots h => va_copyi hX.1.1 hX.1.2.1 (hX.1.2.2.1.trans h.1.1.symm) hX.own (hX.ts _ hw.1) (hX.ts _ hw.2.1) (hX.ts _ hw.2.2.1) (hX.ts _ hw.2.2.2) hX.2.1.1 h.2.1.1 h.2.1.2 h.2.2.1 i j 0 0 (ww_get hi he) (ww_get hj hg) rfl rfl rfl h1 h2 h3 h4 h5 (fun _ _ => rfl) hf hlo hd (fun H1 locs1 a1 a2 a3 => by
    rw [ww_set, hs] at a1 a2
    exact kk H1 locs1 ls cells slots ⟨h.1, ⟨a1, a2⟩, a3, h.2.2.2⟩)
theorem g_copyL {i j N0 N1 idx a b : Nat} {f g : Nat → Int64} {sp dp cn : Int32} {w' : Wst} (hX : Cx p s m args meth c ym cc nL ret xt D AC lo) (hw : Cond.methodLink ym.cls idx arraycopyName ∈ TT ∧ Cond.native arraycopyName ∈ TT ∧ Cond.static arraycopyName ∈ TT ∧ Cond.initialized "java/lang/System" ∈ TT) (hi : i < w.1) (ha : w.2.1 i = a) (he : w.2.2 i = .inl (AC 1, N0, .inr (.inl f))) (hj : j < w.1) (hb : w.2.1 j = b) (hg : w.2.2 j = .inl (AC 1, N1, .inr (.inl g))) (h1 : ¬ sp < 0) (h2 : ¬ dp < 0) (h3 : ¬ cn < 0) (h4 : sp.toNatClampNeg + cn.toNatClampNeg ≤ N0) (h5 : dp.toNatClampNeg + cn.toNatClampNeg ≤ N1) (hd : decode cc pc = .ok (.invokestatic idx, 3)) (hf : 1 ≤ R.frames) (hlo : (st.map fun v => v.category).sum + (nativeFrameWords "java/lang/System" "arraycopy" 5 + 11) ≤ R.locals) (hs : wS w j (.inl (AC 1, N1, .inr (.inl (va_cpy f g sp.toNatClampNeg dp.toNatClampNeg cn.toNatClampNeg)))) = w') (kk : G p l e R s m args below meth c nL D lo post thr w' k n (pc + 3) lv st) : G p l e R s m args below meth c nL D lo post thr w k n pc lv (.int cn :: .int dp :: .ref b :: .int sp :: .ref a :: st) := by
  subst ha; subst hb
  exact fun H locs ls cells slots h => va_copyl hX.1.1 hX.1.2.1 (hX.1.2.2.1.trans h.1.1.symm) hX.own (hX.ts _ hw.1) (hX.ts _ hw.2.1) (hX.ts _ hw.2.2.1) (hX.ts _ hw.2.2.2) hX.2.1.1 h.2.1.1 h.2.1.2 h.2.2.1 i j 1 1 (ww_get hi he) (ww_get hj hg) rfl rfl rfl h1 h2 h3 h4 h5 (fun _ _ => rfl) hf hlo hd (fun H1 locs1 a1 a2 a3 => by
    rw [ww_set, hs] at a1 a2
    exact kk H1 locs1 ls cells slots ⟨h.1, ⟨a1, a2⟩, a3, h.2.2.2⟩)
theorem g_objInit {idx a : Nat} (hX : Cx p s m args meth c ym cc nL ret xt D AC lo) (hl : Cond.methodLink ym.cls idx objectInit ∈ TT) (hi : Cond.instanceMethod objectInit ∈ TT) (hc : Cond.code objectInit ⟨#[0xb1]⟩ 1 none ∈ TT) (hf : 1 ≤ R.frames) (hlo : 2 * 0 + (st.map fun v => v.category).sum + 12 ≤ R.locals) (hd : decode cc pc = .ok (.invokespecial idx, 3)) (kk : G p l e R s m args below meth c nL D lo post thr w k n (pc + 3) lv st) : G p l e R s m args below meth c nL D lo post thr w k n pc lv (.ref a :: st) :=
  fun H locs ls cells slots h => W.objInit hX.1.1 hX.1.2.1 hX.own (hX.ts _ hl) (hX.ts _ hi) (hX.ts _ hc) rfl (by rw [hX.1.2.2.1]; exact h.1.1) rfl hd hf hlo (W.eq rfl (kk H locs ls cells slots h))
end ROWS
end
section
/-! The state of the system: int registers I, long registers L, reference arrays Rf, the kinds K of the deeds, the cells' addresses ad, the number nd of deeds.
I 0: filed, today; of parcel p: I 1 lives, L 1 area, I 2 mortgages, I 3 cautions, I 4 firstOrigin, I 5 secondOrigin, L (100+p) shares, I (100+p) creditors, I (200+p) amounts;
of deed n: I 6 number, I 7 recordDay, I 8 factDay, I 9 outcome, I 10 .. I 13 and L 2 its own fields; Rf 0 byNumber, Rf 1 byFactDay;
the model: I 20 thrown, today, deeds; I 21 kind .. I 28 states, I 29 lives, I 30 many, I 31 creditors, I 32 amounts, I 33 warned, I 34 from, I 35 also, L 3 areas, L 4 tops, L 5 bottoms; L 6: the law's out -/
abbrev St : Type := (Nat → Nat → Int32) × (Nat → Nat → Int64) × (Nat → Nat → Option Nat)
abbrev Ev : Type := (Nat → Nat) × (Nat → Nat) × Nat
def St.I (σ : St) : Nat → Nat → Int32 := σ.1
def St.L (σ : St) : Nat → Nat → Int64 := σ.2.1
def St.Rf (σ : St) : Nat → Nat → Option Nat := σ.2.2
def Ev.ad (Γ : Ev) : Nat → Nat := Γ.1
def Ev.K (Γ : Ev) : Nat → Nat := Γ.2.1
def Ev.nd (Γ : Ev) : Nat := Γ.2.2
/-- an array of ints is now f -/
def St.aI (σ : St) (k : Nat) (f : Nat → Int32) : St := (va_up σ.I k f, σ.2)
def St.aL (σ : St) (k : Nat) (f : Nat → Int64) : St := (σ.1, va_up σ.L k f, σ.2.2)
def St.aR (σ : St) (k : Nat) (f : Nat → Option Nat) : St := (σ.1, σ.2.1, va_up σ.Rf k f)
/-- one place of it -/
abbrev St.sI (σ : St) (k i : Nat) (v : Int32) : St := σ.aI k (upd (σ.I k) i v)
abbrev St.sL (σ : St) (k i : Nat) (v : Int64) : St := σ.aL k (vp_updL (σ.L k) i v)
/-- one more deed, of the class ci, at the address q -/
def Ev.deed (Γ : Ev) (ci q : Nat) : Ev := (va_up Γ.ad (344 + Γ.nd) q, va_up Γ.K Γ.nd ci, Γ.nd + 1)
/-- its fields are 0 -/
def St.deed (σ : St) (n : Nat) : St := (fun k => if 6 ≤ k ∧ k ≤ 13 then upd (σ.I k) n 0 else σ.I k, fun k => if k = 2 then vp_updL (σ.L 2) n 0 else σ.L k, σ.Rf)
abbrev rfA (f : Nat → Option Nat) : (Nat → Int32) ⊕ (Nat → Int64) ⊕ (Nat → UInt32) ⊕ (Nat → UInt64) ⊕ (Nat → Option Nat) := .inr (.inr (.inr (.inr f)))
abbrev loA6 (f : Nat → Int64) : (Nat → Int32) ⊕ (Nat → Int64) ⊕ (Nat → UInt32) ⊕ (Nat → UInt64) ⊕ (Nat → Option Nat) := .inr (.inl f)
abbrev inA (f : Nat → Int32) : (Nat → Int32) ⊕ (Nat → Int64) ⊕ (Nat → UInt32) ⊕ (Nat → UInt64) ⊕ (Nat → Option Nat) := .inl f
def lay0 (AC : Nat → ClassId) (Γ : Ev) (σ : St) : Nat → va_E
  | 0 => .inr (0, [.ref (Γ.ad 1), .ref (Γ.ad 2), .ref (Γ.ad 3), .int (σ.I 0 0), .int (σ.I 0 1)])
  | 1 => .inl (AC 3, 40, rfA (σ.Rf 0))
  | 2 => .inl (AC 3, 40, rfA (σ.Rf 1))
  | _ => .inl (AC 4, 80, rfA (fun p => some (Γ.ad (4 + 4 * p))))
def layP (AC : Nat → ClassId) (Γ : Ev) (σ : St) (p : Nat) : Nat → va_E
  | 0 => .inr (1, [.int (σ.I 1 p), .long (σ.L 1 p), .ref (Γ.ad (5 + 4 * p)), .int (σ.I 2 p), .ref (Γ.ad (6 + 4 * p)), .ref (Γ.ad (7 + 4 * p)), .int (σ.I 3 p), .int (σ.I 4 p), .int (σ.I 5 p)])
  | 1 => .inl (AC 1, 8, loA6 (σ.L (100 + p)))
  | 2 => .inl (AC 0, 4, inA (σ.I (100 + p)))
  | _ => .inl (AC 0, 4, inA (σ.I (200 + p)))
def layM (AC : Nat → ClassId) (Γ : Ev) (σ : St) : Nat → va_E
  | 0 => .inr (11, [.int (σ.I 20 0), .int (σ.I 20 1), .int (σ.I 20 2), .ref (Γ.ad 325), .ref (Γ.ad 326), .ref (Γ.ad 327), .ref (Γ.ad 328), .ref (Γ.ad 329), .ref (Γ.ad 330), .ref (Γ.ad 331), .ref (Γ.ad 332), .ref (Γ.ad 333), .ref (Γ.ad 334), .ref (Γ.ad 335), .ref (Γ.ad 336), .ref (Γ.ad 337), .ref (Γ.ad 338), .ref (Γ.ad 339), .ref (Γ.ad 340), .ref (Γ.ad 341), .ref (Γ.ad 342)])
  | 1 => .inl (AC 0, 40, inA (σ.I 21))
  | 2 => .inl (AC 0, 40, inA (σ.I 22))
  | 3 => .inl (AC 0, 40, inA (σ.I 23))
  | 4 => .inl (AC 0, 40, inA (σ.I 24))
  | 5 => .inl (AC 0, 40, inA (σ.I 25))
  | 6 => .inl (AC 0, 40, inA (σ.I 26))
  | 7 => .inl (AC 0, 40, inA (σ.I 27))
  | 8 => .inl (AC 0, 40, inA (σ.I 28))
  | 9 => .inl (AC 2, 80, inA (σ.I 29))
  | 10 => .inl (AC 1, 80, loA6 (σ.L 3))
  | 11 => .inl (AC 1, 640, loA6 (σ.L 4))
  | 12 => .inl (AC 1, 640, loA6 (σ.L 5))
  | 13 => .inl (AC 0, 80, inA (σ.I 30))
  | 14 => .inl (AC 0, 320, inA (σ.I 31))
  | 15 => .inl (AC 0, 320, inA (σ.I 32))
  | 16 => .inl (AC 0, 80, inA (σ.I 33))
  | 17 => .inl (AC 0, 80, inA (σ.I 34))
  | 18 => .inl (AC 0, 80, inA (σ.I 35))
  | _ => .inl (AC 1, 1, loA6 (σ.L 6))
def layX (σ : St) (n : Nat) : Nat → List Value
  | 3 => [.int (σ.I 10 n), .int (σ.I 11 n), .int (σ.I 12 n), .long (σ.L 2 n)]
  | 4 => [.int (σ.I 10 n), .int (σ.I 11 n), .int (σ.I 12 n)]
  | 5 => [.int (σ.I 10 n), .int (σ.I 11 n), .int (σ.I 12 n), .int (σ.I 13 n)]
  | _ => [.int (σ.I 10 n), .int (σ.I 11 n)]
def layD (Γ : Ev) (σ : St) (n : Nat) : va_E := .inr (Γ.K n, [.int (σ.I 6 n), .int (σ.I 7 n), .int (σ.I 8 n), .int (σ.I 9 n)] ++ layX σ n (Γ.K n))
def lay (AC : Nat → ClassId) (Γ : Ev) (σ : St) (i : Nat) : va_E :=
  if i < 4 then lay0 AC Γ σ i else if i < 324 then layP AC Γ σ ((i - 4) / 4) ((i - 4) % 4) else if i < 344 then layM AC Γ σ (i - 324) else layD Γ σ (i - 344)
def wσ (AC : Nat → ClassId) (Γ : Ev) (σ : St) : Wst := (344 + Γ.nd, Γ.ad, lay AC Γ σ)
theorem lay_0 {AC : Nat → ClassId} {Γ : Ev} {σ : St} {i : Nat} (h : i < 4) : lay AC Γ σ i = lay0 AC Γ σ i := if_pos h
theorem lay_P {AC : Nat → ClassId} {Γ : Ev} {σ : St} {p j : Nat} (hp : p < 80) (hj : j < 4) : lay AC Γ σ (4 + j + 4 * p) = layP AC Γ σ p j := by
  unfold lay
  rw [if_neg (by omega), if_pos (by omega), show (4 + j + 4 * p - 4) / 4 = p by omega, show (4 + j + 4 * p - 4) % 4 = j by omega]
theorem lay_P0 {AC : Nat → ClassId} {Γ : Ev} {σ : St} {p : Nat} (hp : p < 80) : lay AC Γ σ (4 + 4 * p) = layP AC Γ σ p 0 := lay_P (j := 0) hp (by decide)
theorem lay_P1 {AC : Nat → ClassId} {Γ : Ev} {σ : St} {p : Nat} (hp : p < 80) : lay AC Γ σ (5 + 4 * p) = layP AC Γ σ p 1 := lay_P (j := 1) hp (by decide)
theorem lay_P2 {AC : Nat → ClassId} {Γ : Ev} {σ : St} {p : Nat} (hp : p < 80) : lay AC Γ σ (6 + 4 * p) = layP AC Γ σ p 2 := lay_P (j := 2) hp (by decide)
theorem lay_P3 {AC : Nat → ClassId} {Γ : Ev} {σ : St} {p : Nat} (hp : p < 80) : lay AC Γ σ (7 + 4 * p) = layP AC Γ σ p 3 := lay_P (j := 3) hp (by decide)
theorem lay_M {AC : Nat → ClassId} {Γ : Ev} {σ : St} {j : Nat} (hj : j < 20) : lay AC Γ σ (324 + j) = layM AC Γ σ j := by
  unfold lay
  rw [if_neg (by omega), if_neg (by omega), if_pos (by omega), show 324 + j - 324 = j by omega]
theorem lay_D {AC : Nat → ClassId} {Γ : Ev} {σ : St} {n : Nat} : lay AC Γ σ (344 + n) = layD Γ σ n := by
  unfold lay
  rw [if_neg (by omega), if_neg (by omega), if_neg (by omega), show 344 + n - 344 = n by omega]
/-- a store: the cell's new content, and all other cells as they were -/
theorem wσ_set {AC : Nat → ClassId} {Γ : Ev} {σ σ' : St} {i0 : Nat} {x : va_E} (h3 : lay AC Γ σ' i0 = x) (h4 : ∀ i, i ≠ i0 → lay AC Γ σ' i = lay AC Γ σ i) : wS (wσ AC Γ σ) i0 x = wσ AC Γ σ' := by
  show (344 + Γ.nd, Γ.ad, va_up (lay AC Γ σ) i0 x) = (344 + Γ.nd, Γ.ad, lay AC Γ σ')
  refine congrArg (fun z => (344 + Γ.nd, Γ.ad, z)) ?_
  funext i
  by_cases e : i = i0
  · subst e; rw [va_up_self, h3]
  · rw [va_up_ne _ _ e, h4 i e]
theorem lay_eq {AC : Nat → ClassId} {Γ : Ev} {σ σ' : St} {i i0 : Nat} (hne : i ≠ i0) (g0 : ∀ j, j < 4 → j ≠ i0 → lay0 AC Γ σ' j = lay0 AC Γ σ j) (gP : ∀ p j, p < 80 → j < 4 → 4 + j + 4 * p ≠ i0 → layP AC Γ σ' p j = layP AC Γ σ p j) (gM : ∀ j, j < 20 → 324 + j ≠ i0 → layM AC Γ σ' j = layM AC Γ σ j) (gD : ∀ n, 344 + n ≠ i0 → layD Γ σ' n = layD Γ σ n) : lay AC Γ σ' i = lay AC Γ σ i := by
  unfold lay
  by_cases h0 : i < 4
  · rw [if_pos h0, if_pos h0]; exact g0 i h0 hne
  · rw [if_neg h0, if_neg h0]
    by_cases h1 : i < 324
    · rw [if_pos h1, if_pos h1]; exact gP _ _ (by omega) (by omega) (by omega)
    · rw [if_neg h1, if_neg h1]
      by_cases h2 : i < 344
      · rw [if_pos h2, if_pos h2]; exact gM _ (by omega) (by omega)
      · rw [if_neg h2, if_neg h2]; exact gD _ (by omega)
theorem aI_I (σ : St) (k j : Nat) (f : Nat → Int32) : (σ.aI k f).I j = if j = k then f else σ.I j := rfl
theorem aI_L (σ : St) (k : Nat) (f : Nat → Int32) : (σ.aI k f).L = σ.L := rfl
theorem aI_Rf (σ : St) (k : Nat) (f : Nat → Int32) : (σ.aI k f).Rf = σ.Rf := rfl
theorem aL_L (σ : St) (k j : Nat) (f : Nat → Int64) : (σ.aL k f).L j = if j = k then f else σ.L j := rfl
theorem aL_I (σ : St) (k : Nat) (f : Nat → Int64) : (σ.aL k f).I = σ.I := rfl
theorem aL_Rf (σ : St) (k : Nat) (f : Nat → Int64) : (σ.aL k f).Rf = σ.Rf := rfl
theorem aR_Rf (σ : St) (k j : Nat) (f : Nat → Option Nat) : (σ.aR k f).Rf j = if j = k then f else σ.Rf j := rfl
theorem aR_I (σ : St) (k : Nat) (f : Nat → Option Nat) : (σ.aR k f).I = σ.I := rfl
theorem aR_L (σ : St) (k : Nat) (f : Nat → Option Nat) : (σ.aR k f).L = σ.L := rfl

theorem lay0_eq {AC : Nat → ClassId} {Γ : Ev} {σ σ' : St} {j : Nat} (h2 : σ'.I 0 = σ.I 0) (h3 : σ'.Rf = σ.Rf) : lay0 AC Γ σ' j = lay0 AC Γ σ j := by
  unfold lay0
  split <;> simp only [h2, h3]
theorem layP_eq {AC : Nat → ClassId} {Γ : Ev} {σ σ' : St} {p j : Nat} (h2 : j = 0 → σ'.I 1 p = σ.I 1 p ∧ σ'.L 1 p = σ.L 1 p ∧ σ'.I 2 p = σ.I 2 p ∧ σ'.I 3 p = σ.I 3 p ∧ σ'.I 4 p = σ.I 4 p ∧ σ'.I 5 p = σ.I 5 p) (h3 : j = 1 → σ'.L (100 + p) = σ.L (100 + p)) (h4 : j = 2 → σ'.I (100 + p) = σ.I (100 + p)) (h5 : j = 3 → σ'.I (200 + p) = σ.I (200 + p)) (hj : j < 4) : layP AC Γ σ' p j = layP AC Γ σ p j := by
  have hc : j = 0 ∨ j = 1 ∨ j = 2 ∨ j = 3 := by omega
  rcases hc with rfl | rfl | rfl | rfl
  · obtain ⟨a, b, c, d, e, f⟩ := h2 rfl
    simp only [layP, a, b, c, d, e, f]
  · simp only [layP, h3 rfl]
  · simp only [layP, h4 rfl]
  · simp only [layP, h5 rfl]
def mreg : Nat → Option (Nat × Nat)
  | 1 => some (0, 21)
  | 2 => some (0, 22)
  | 3 => some (0, 23)
  | 4 => some (0, 24)
  | 5 => some (0, 25)
  | 6 => some (0, 26)
  | 7 => some (0, 27)
  | 8 => some (0, 28)
  | 9 => some (0, 29)
  | 10 => some (1, 3)
  | 11 => some (1, 4)
  | 12 => some (1, 5)
  | 13 => some (0, 30)
  | 14 => some (0, 31)
  | 15 => some (0, 32)
  | 16 => some (0, 33)
  | 17 => some (0, 34)
  | 18 => some (0, 35)
  | 19 => some (1, 6)
  | _ => none
theorem layM_eq {AC : Nat → ClassId} {Γ : Ev} {σ σ' : St} {j : Nat} (h2 : j = 0 → σ'.I 20 = σ.I 20) (hI : ∀ k, 21 ≤ k → k ≤ 35 → mreg j = some (0, k) → σ'.I k = σ.I k) (hL : ∀ k, 3 ≤ k → k ≤ 6 → mreg j = some (1, k) → σ'.L k = σ.L k) (hj : j < 20) : layM AC Γ σ' j = layM AC Γ σ j := by
  have hc : j = 0 ∨ j = 1 ∨ j = 2 ∨ j = 3 ∨ j = 4 ∨ j = 5 ∨ j = 6 ∨ j = 7 ∨ j = 8 ∨ j = 9 ∨ j = 10 ∨ j = 11 ∨ j = 12 ∨ j = 13 ∨ j = 14 ∨ j = 15 ∨ j = 16 ∨ j = 17 ∨ j = 18 ∨ j = 19 := by omega
  rcases hc with rfl | rfl | rfl | rfl | rfl | rfl | rfl | rfl | rfl | rfl | rfl | rfl | rfl | rfl | rfl | rfl | rfl | rfl | rfl | rfl
  · simp only [layM, h2 rfl]
  · simp only [layM, hI 21 (by decide) (by decide) rfl]
  · simp only [layM, hI 22 (by decide) (by decide) rfl]
  · simp only [layM, hI 23 (by decide) (by decide) rfl]
  · simp only [layM, hI 24 (by decide) (by decide) rfl]
  · simp only [layM, hI 25 (by decide) (by decide) rfl]
  · simp only [layM, hI 26 (by decide) (by decide) rfl]
  · simp only [layM, hI 27 (by decide) (by decide) rfl]
  · simp only [layM, hI 28 (by decide) (by decide) rfl]
  · simp only [layM, hI 29 (by decide) (by decide) rfl]
  · simp only [layM, hL 3 (by decide) (by decide) rfl]
  · simp only [layM, hL 4 (by decide) (by decide) rfl]
  · simp only [layM, hL 5 (by decide) (by decide) rfl]
  · simp only [layM, hI 30 (by decide) (by decide) rfl]
  · simp only [layM, hI 31 (by decide) (by decide) rfl]
  · simp only [layM, hI 32 (by decide) (by decide) rfl]
  · simp only [layM, hI 33 (by decide) (by decide) rfl]
  · simp only [layM, hI 34 (by decide) (by decide) rfl]
  · simp only [layM, hI 35 (by decide) (by decide) rfl]
  · simp only [layM, hL 6 (by decide) (by decide) rfl]
theorem layD_eq {Γ : Ev} {σ σ' : St} {n : Nat} (hI : ∀ k, 6 ≤ k → k ≤ 13 → σ'.I k n = σ.I k n) (hL : σ'.L 2 n = σ.L 2 n) : layD Γ σ' n = layD Γ σ n := by
  unfold layD layX
  simp only [hI 6 (by decide) (by decide), hI 7 (by decide) (by decide), hI 8 (by decide) (by decide), hI 9 (by decide) (by decide), hI 10 (by decide) (by decide), hI 11 (by decide) (by decide), hI 12 (by decide) (by decide), hI 13 (by decide) (by decide), hL]
theorem wσ_lives {AC : Nat → ClassId} {Γ : Ev} {σ : St} {p : Nat} (hp : p < 80) (v : Int32) : wS (wσ AC Γ σ) (4 + 4 * p) (.inr (1, [.int v, .long (σ.L 1 p), .ref (Γ.ad (5 + 4 * p)), .int (σ.I 2 p), .ref (Γ.ad (6 + 4 * p)), .ref (Γ.ad (7 + 4 * p)), .int (σ.I 3 p), .int (σ.I 4 p), .int (σ.I 5 p)])) = wσ AC Γ (σ.sI 1 p v) := by
  refine wσ_set ?_ (fun i hi => lay_eq hi (fun j _ _ => lay0_eq (by first | rfl | (simp only [aI_I, aI_L, aI_Rf, aL_I, aL_L, aL_Rf, aR_I, aR_L, aR_Rf]; rw [if_neg (by omega)])) (by first | rfl | (simp only [aI_I, aI_L, aI_Rf, aL_I, aL_L, aL_Rf, aR_I, aR_L, aR_Rf]; rw [if_neg (by omega)]))) (fun p' j hp' hj hne => layP_eq (fun e8 => by have hpp : ¬ p' = p := (by omega); simp [aI_I, aI_L, aI_Rf, aL_I, aL_L, aL_Rf, aR_I, aR_L, aR_Rf, upd, hpp]) (fun _ => (by first | rfl | (simp only [aI_I, aI_L, aI_Rf, aL_I, aL_L, aL_Rf, aR_I, aR_L, aR_Rf]; rw [if_neg (by omega)]))) (fun _ => (by first | rfl | (simp only [aI_I, aI_L, aI_Rf, aL_I, aL_L, aL_Rf, aR_I, aR_L, aR_Rf]; rw [if_neg (by omega)]))) (fun _ => (by first | rfl | (simp only [aI_I, aI_L, aI_Rf, aL_I, aL_L, aL_Rf, aR_I, aR_L, aR_Rf]; rw [if_neg (by omega)]))) hj) (fun j hj _ => layM_eq (fun _ => (by first | rfl | (simp only [aI_I, aI_L, aI_Rf, aL_I, aL_L, aL_Rf, aR_I, aR_L, aR_Rf]; rw [if_neg (by omega)]))) (fun k h1 h2 _ => (by first | rfl | (simp only [aI_I, aI_L, aI_Rf, aL_I, aL_L, aL_Rf, aR_I, aR_L, aR_Rf]; rw [if_neg (by omega)]))) (fun k h1 h2 _ => (by first | rfl | (simp only [aI_I, aI_L, aI_Rf, aL_I, aL_L, aL_Rf, aR_I, aR_L, aR_Rf]; rw [if_neg (by omega)]))) hj) (fun n' _ => layD_eq (fun k h1 h2 => (by first | rfl | (simp only [aI_I, aI_L, aI_Rf, aL_I, aL_L, aL_Rf, aR_I, aR_L, aR_Rf]; rw [if_neg (by omega)]))) (by first | rfl | (simp only [aI_I, aI_L, aI_Rf, aL_I, aL_L, aL_Rf, aR_I, aR_L, aR_Rf]; rw [if_neg (by omega)]))))
  rw [lay_P0 hp]; simp [layP, aI_I, aI_L, aI_Rf, aL_I, aL_L, aL_Rf, aR_I, aR_L, aR_Rf, upd]
theorem wσ_area {AC : Nat → ClassId} {Γ : Ev} {σ : St} {p : Nat} (hp : p < 80) (v : Int64) : wS (wσ AC Γ σ) (4 + 4 * p) (.inr (1, [.int (σ.I 1 p), .long v, .ref (Γ.ad (5 + 4 * p)), .int (σ.I 2 p), .ref (Γ.ad (6 + 4 * p)), .ref (Γ.ad (7 + 4 * p)), .int (σ.I 3 p), .int (σ.I 4 p), .int (σ.I 5 p)])) = wσ AC Γ (σ.sL 1 p v) := by
  refine wσ_set ?_ (fun i hi => lay_eq hi (fun j _ _ => lay0_eq (by first | rfl | (simp only [aI_I, aI_L, aI_Rf, aL_I, aL_L, aL_Rf, aR_I, aR_L, aR_Rf]; rw [if_neg (by omega)])) (by first | rfl | (simp only [aI_I, aI_L, aI_Rf, aL_I, aL_L, aL_Rf, aR_I, aR_L, aR_Rf]; rw [if_neg (by omega)]))) (fun p' j hp' hj hne => layP_eq (fun e8 => by have hpp : ¬ p' = p := (by omega); simp [aI_I, aI_L, aI_Rf, aL_I, aL_L, aL_Rf, aR_I, aR_L, aR_Rf, vp_updL, hpp]) (fun _ => (by first | rfl | (simp only [aI_I, aI_L, aI_Rf, aL_I, aL_L, aL_Rf, aR_I, aR_L, aR_Rf]; rw [if_neg (by omega)]))) (fun _ => (by first | rfl | (simp only [aI_I, aI_L, aI_Rf, aL_I, aL_L, aL_Rf, aR_I, aR_L, aR_Rf]; rw [if_neg (by omega)]))) (fun _ => (by first | rfl | (simp only [aI_I, aI_L, aI_Rf, aL_I, aL_L, aL_Rf, aR_I, aR_L, aR_Rf]; rw [if_neg (by omega)]))) hj) (fun j hj _ => layM_eq (fun _ => (by first | rfl | (simp only [aI_I, aI_L, aI_Rf, aL_I, aL_L, aL_Rf, aR_I, aR_L, aR_Rf]; rw [if_neg (by omega)]))) (fun k h1 h2 _ => (by first | rfl | (simp only [aI_I, aI_L, aI_Rf, aL_I, aL_L, aL_Rf, aR_I, aR_L, aR_Rf]; rw [if_neg (by omega)]))) (fun k h1 h2 _ => (by first | rfl | (simp only [aI_I, aI_L, aI_Rf, aL_I, aL_L, aL_Rf, aR_I, aR_L, aR_Rf]; rw [if_neg (by omega)]))) hj) (fun n' _ => layD_eq (fun k h1 h2 => (by first | rfl | (simp only [aI_I, aI_L, aI_Rf, aL_I, aL_L, aL_Rf, aR_I, aR_L, aR_Rf]; rw [if_neg (by omega)]))) (by first | rfl | (simp only [aI_I, aI_L, aI_Rf, aL_I, aL_L, aL_Rf, aR_I, aR_L, aR_Rf]; rw [if_neg (by omega)]))))
  rw [lay_P0 hp]; simp [layP, aI_I, aI_L, aI_Rf, aL_I, aL_L, aL_Rf, aR_I, aR_L, aR_Rf, vp_updL]
theorem wσ_mort {AC : Nat → ClassId} {Γ : Ev} {σ : St} {p : Nat} (hp : p < 80) (v : Int32) : wS (wσ AC Γ σ) (4 + 4 * p) (.inr (1, [.int (σ.I 1 p), .long (σ.L 1 p), .ref (Γ.ad (5 + 4 * p)), .int v, .ref (Γ.ad (6 + 4 * p)), .ref (Γ.ad (7 + 4 * p)), .int (σ.I 3 p), .int (σ.I 4 p), .int (σ.I 5 p)])) = wσ AC Γ (σ.sI 2 p v) := by
  refine wσ_set ?_ (fun i hi => lay_eq hi (fun j _ _ => lay0_eq (by first | rfl | (simp only [aI_I, aI_L, aI_Rf, aL_I, aL_L, aL_Rf, aR_I, aR_L, aR_Rf]; rw [if_neg (by omega)])) (by first | rfl | (simp only [aI_I, aI_L, aI_Rf, aL_I, aL_L, aL_Rf, aR_I, aR_L, aR_Rf]; rw [if_neg (by omega)]))) (fun p' j hp' hj hne => layP_eq (fun e8 => by have hpp : ¬ p' = p := (by omega); simp [aI_I, aI_L, aI_Rf, aL_I, aL_L, aL_Rf, aR_I, aR_L, aR_Rf, upd, hpp]) (fun _ => (by first | rfl | (simp only [aI_I, aI_L, aI_Rf, aL_I, aL_L, aL_Rf, aR_I, aR_L, aR_Rf]; rw [if_neg (by omega)]))) (fun _ => (by first | rfl | (simp only [aI_I, aI_L, aI_Rf, aL_I, aL_L, aL_Rf, aR_I, aR_L, aR_Rf]; rw [if_neg (by omega)]))) (fun _ => (by first | rfl | (simp only [aI_I, aI_L, aI_Rf, aL_I, aL_L, aL_Rf, aR_I, aR_L, aR_Rf]; rw [if_neg (by omega)]))) hj) (fun j hj _ => layM_eq (fun _ => (by first | rfl | (simp only [aI_I, aI_L, aI_Rf, aL_I, aL_L, aL_Rf, aR_I, aR_L, aR_Rf]; rw [if_neg (by omega)]))) (fun k h1 h2 _ => (by first | rfl | (simp only [aI_I, aI_L, aI_Rf, aL_I, aL_L, aL_Rf, aR_I, aR_L, aR_Rf]; rw [if_neg (by omega)]))) (fun k h1 h2 _ => (by first | rfl | (simp only [aI_I, aI_L, aI_Rf, aL_I, aL_L, aL_Rf, aR_I, aR_L, aR_Rf]; rw [if_neg (by omega)]))) hj) (fun n' _ => layD_eq (fun k h1 h2 => (by first | rfl | (simp only [aI_I, aI_L, aI_Rf, aL_I, aL_L, aL_Rf, aR_I, aR_L, aR_Rf]; rw [if_neg (by omega)]))) (by first | rfl | (simp only [aI_I, aI_L, aI_Rf, aL_I, aL_L, aL_Rf, aR_I, aR_L, aR_Rf]; rw [if_neg (by omega)]))))
  rw [lay_P0 hp]; simp [layP, aI_I, aI_L, aI_Rf, aL_I, aL_L, aL_Rf, aR_I, aR_L, aR_Rf, upd]
theorem wσ_caut {AC : Nat → ClassId} {Γ : Ev} {σ : St} {p : Nat} (hp : p < 80) (v : Int32) : wS (wσ AC Γ σ) (4 + 4 * p) (.inr (1, [.int (σ.I 1 p), .long (σ.L 1 p), .ref (Γ.ad (5 + 4 * p)), .int (σ.I 2 p), .ref (Γ.ad (6 + 4 * p)), .ref (Γ.ad (7 + 4 * p)), .int v, .int (σ.I 4 p), .int (σ.I 5 p)])) = wσ AC Γ (σ.sI 3 p v) := by
  refine wσ_set ?_ (fun i hi => lay_eq hi (fun j _ _ => lay0_eq (by first | rfl | (simp only [aI_I, aI_L, aI_Rf, aL_I, aL_L, aL_Rf, aR_I, aR_L, aR_Rf]; rw [if_neg (by omega)])) (by first | rfl | (simp only [aI_I, aI_L, aI_Rf, aL_I, aL_L, aL_Rf, aR_I, aR_L, aR_Rf]; rw [if_neg (by omega)]))) (fun p' j hp' hj hne => layP_eq (fun e8 => by have hpp : ¬ p' = p := (by omega); simp [aI_I, aI_L, aI_Rf, aL_I, aL_L, aL_Rf, aR_I, aR_L, aR_Rf, upd, hpp]) (fun _ => (by first | rfl | (simp only [aI_I, aI_L, aI_Rf, aL_I, aL_L, aL_Rf, aR_I, aR_L, aR_Rf]; rw [if_neg (by omega)]))) (fun _ => (by first | rfl | (simp only [aI_I, aI_L, aI_Rf, aL_I, aL_L, aL_Rf, aR_I, aR_L, aR_Rf]; rw [if_neg (by omega)]))) (fun _ => (by first | rfl | (simp only [aI_I, aI_L, aI_Rf, aL_I, aL_L, aL_Rf, aR_I, aR_L, aR_Rf]; rw [if_neg (by omega)]))) hj) (fun j hj _ => layM_eq (fun _ => (by first | rfl | (simp only [aI_I, aI_L, aI_Rf, aL_I, aL_L, aL_Rf, aR_I, aR_L, aR_Rf]; rw [if_neg (by omega)]))) (fun k h1 h2 _ => (by first | rfl | (simp only [aI_I, aI_L, aI_Rf, aL_I, aL_L, aL_Rf, aR_I, aR_L, aR_Rf]; rw [if_neg (by omega)]))) (fun k h1 h2 _ => (by first | rfl | (simp only [aI_I, aI_L, aI_Rf, aL_I, aL_L, aL_Rf, aR_I, aR_L, aR_Rf]; rw [if_neg (by omega)]))) hj) (fun n' _ => layD_eq (fun k h1 h2 => (by first | rfl | (simp only [aI_I, aI_L, aI_Rf, aL_I, aL_L, aL_Rf, aR_I, aR_L, aR_Rf]; rw [if_neg (by omega)]))) (by first | rfl | (simp only [aI_I, aI_L, aI_Rf, aL_I, aL_L, aL_Rf, aR_I, aR_L, aR_Rf]; rw [if_neg (by omega)]))))
  rw [lay_P0 hp]; simp [layP, aI_I, aI_L, aI_Rf, aL_I, aL_L, aL_Rf, aR_I, aR_L, aR_Rf, upd]
theorem wσ_o1 {AC : Nat → ClassId} {Γ : Ev} {σ : St} {p : Nat} (hp : p < 80) (v : Int32) : wS (wσ AC Γ σ) (4 + 4 * p) (.inr (1, [.int (σ.I 1 p), .long (σ.L 1 p), .ref (Γ.ad (5 + 4 * p)), .int (σ.I 2 p), .ref (Γ.ad (6 + 4 * p)), .ref (Γ.ad (7 + 4 * p)), .int (σ.I 3 p), .int v, .int (σ.I 5 p)])) = wσ AC Γ (σ.sI 4 p v) := by
  refine wσ_set ?_ (fun i hi => lay_eq hi (fun j _ _ => lay0_eq (by first | rfl | (simp only [aI_I, aI_L, aI_Rf, aL_I, aL_L, aL_Rf, aR_I, aR_L, aR_Rf]; rw [if_neg (by omega)])) (by first | rfl | (simp only [aI_I, aI_L, aI_Rf, aL_I, aL_L, aL_Rf, aR_I, aR_L, aR_Rf]; rw [if_neg (by omega)]))) (fun p' j hp' hj hne => layP_eq (fun e8 => by have hpp : ¬ p' = p := (by omega); simp [aI_I, aI_L, aI_Rf, aL_I, aL_L, aL_Rf, aR_I, aR_L, aR_Rf, upd, hpp]) (fun _ => (by first | rfl | (simp only [aI_I, aI_L, aI_Rf, aL_I, aL_L, aL_Rf, aR_I, aR_L, aR_Rf]; rw [if_neg (by omega)]))) (fun _ => (by first | rfl | (simp only [aI_I, aI_L, aI_Rf, aL_I, aL_L, aL_Rf, aR_I, aR_L, aR_Rf]; rw [if_neg (by omega)]))) (fun _ => (by first | rfl | (simp only [aI_I, aI_L, aI_Rf, aL_I, aL_L, aL_Rf, aR_I, aR_L, aR_Rf]; rw [if_neg (by omega)]))) hj) (fun j hj _ => layM_eq (fun _ => (by first | rfl | (simp only [aI_I, aI_L, aI_Rf, aL_I, aL_L, aL_Rf, aR_I, aR_L, aR_Rf]; rw [if_neg (by omega)]))) (fun k h1 h2 _ => (by first | rfl | (simp only [aI_I, aI_L, aI_Rf, aL_I, aL_L, aL_Rf, aR_I, aR_L, aR_Rf]; rw [if_neg (by omega)]))) (fun k h1 h2 _ => (by first | rfl | (simp only [aI_I, aI_L, aI_Rf, aL_I, aL_L, aL_Rf, aR_I, aR_L, aR_Rf]; rw [if_neg (by omega)]))) hj) (fun n' _ => layD_eq (fun k h1 h2 => (by first | rfl | (simp only [aI_I, aI_L, aI_Rf, aL_I, aL_L, aL_Rf, aR_I, aR_L, aR_Rf]; rw [if_neg (by omega)]))) (by first | rfl | (simp only [aI_I, aI_L, aI_Rf, aL_I, aL_L, aL_Rf, aR_I, aR_L, aR_Rf]; rw [if_neg (by omega)]))))
  rw [lay_P0 hp]; simp [layP, aI_I, aI_L, aI_Rf, aL_I, aL_L, aL_Rf, aR_I, aR_L, aR_Rf, upd]
theorem wσ_o2 {AC : Nat → ClassId} {Γ : Ev} {σ : St} {p : Nat} (hp : p < 80) (v : Int32) : wS (wσ AC Γ σ) (4 + 4 * p) (.inr (1, [.int (σ.I 1 p), .long (σ.L 1 p), .ref (Γ.ad (5 + 4 * p)), .int (σ.I 2 p), .ref (Γ.ad (6 + 4 * p)), .ref (Γ.ad (7 + 4 * p)), .int (σ.I 3 p), .int (σ.I 4 p), .int v])) = wσ AC Γ (σ.sI 5 p v) := by
  refine wσ_set ?_ (fun i hi => lay_eq hi (fun j _ _ => lay0_eq (by first | rfl | (simp only [aI_I, aI_L, aI_Rf, aL_I, aL_L, aL_Rf, aR_I, aR_L, aR_Rf]; rw [if_neg (by omega)])) (by first | rfl | (simp only [aI_I, aI_L, aI_Rf, aL_I, aL_L, aL_Rf, aR_I, aR_L, aR_Rf]; rw [if_neg (by omega)]))) (fun p' j hp' hj hne => layP_eq (fun e8 => by have hpp : ¬ p' = p := (by omega); simp [aI_I, aI_L, aI_Rf, aL_I, aL_L, aL_Rf, aR_I, aR_L, aR_Rf, upd, hpp]) (fun _ => (by first | rfl | (simp only [aI_I, aI_L, aI_Rf, aL_I, aL_L, aL_Rf, aR_I, aR_L, aR_Rf]; rw [if_neg (by omega)]))) (fun _ => (by first | rfl | (simp only [aI_I, aI_L, aI_Rf, aL_I, aL_L, aL_Rf, aR_I, aR_L, aR_Rf]; rw [if_neg (by omega)]))) (fun _ => (by first | rfl | (simp only [aI_I, aI_L, aI_Rf, aL_I, aL_L, aL_Rf, aR_I, aR_L, aR_Rf]; rw [if_neg (by omega)]))) hj) (fun j hj _ => layM_eq (fun _ => (by first | rfl | (simp only [aI_I, aI_L, aI_Rf, aL_I, aL_L, aL_Rf, aR_I, aR_L, aR_Rf]; rw [if_neg (by omega)]))) (fun k h1 h2 _ => (by first | rfl | (simp only [aI_I, aI_L, aI_Rf, aL_I, aL_L, aL_Rf, aR_I, aR_L, aR_Rf]; rw [if_neg (by omega)]))) (fun k h1 h2 _ => (by first | rfl | (simp only [aI_I, aI_L, aI_Rf, aL_I, aL_L, aL_Rf, aR_I, aR_L, aR_Rf]; rw [if_neg (by omega)]))) hj) (fun n' _ => layD_eq (fun k h1 h2 => (by first | rfl | (simp only [aI_I, aI_L, aI_Rf, aL_I, aL_L, aL_Rf, aR_I, aR_L, aR_Rf]; rw [if_neg (by omega)]))) (by first | rfl | (simp only [aI_I, aI_L, aI_Rf, aL_I, aL_L, aL_Rf, aR_I, aR_L, aR_Rf]; rw [if_neg (by omega)]))))
  rw [lay_P0 hp]; simp [layP, aI_I, aI_L, aI_Rf, aL_I, aL_L, aL_Rf, aR_I, aR_L, aR_Rf, upd]
theorem wσ_sh {AC : Nat → ClassId} {Γ : Ev} {σ : St} {p : Nat} (hp : p < 80) (f : Nat → Int64) : wS (wσ AC Γ σ) (5 + 4 * p) (.inl (AC 1, 8, loA6 f)) = wσ AC Γ (σ.aL (100 + p) f) := by
  refine wσ_set ?_ (fun i hi => lay_eq hi (fun j _ _ => lay0_eq (by first | rfl | (simp only [aI_I, aI_L, aI_Rf, aL_I, aL_L, aL_Rf, aR_I, aR_L, aR_Rf]; rw [if_neg (by omega)])) (by first | rfl | (simp only [aI_I, aI_L, aI_Rf, aL_I, aL_L, aL_Rf, aR_I, aR_L, aR_Rf]; rw [if_neg (by omega)]))) (fun p' j hp' hj hne => layP_eq (fun _ => ⟨(by first | rfl | (simp only [aI_I, aI_L, aI_Rf, aL_I, aL_L, aL_Rf, aR_I, aR_L, aR_Rf]; rw [if_neg (by omega)])), (by first | rfl | (simp only [aI_I, aI_L, aI_Rf, aL_I, aL_L, aL_Rf, aR_I, aR_L, aR_Rf]; rw [if_neg (by omega)])), (by first | rfl | (simp only [aI_I, aI_L, aI_Rf, aL_I, aL_L, aL_Rf, aR_I, aR_L, aR_Rf]; rw [if_neg (by omega)])), (by first | rfl | (simp only [aI_I, aI_L, aI_Rf, aL_I, aL_L, aL_Rf, aR_I, aR_L, aR_Rf]; rw [if_neg (by omega)])), (by first | rfl | (simp only [aI_I, aI_L, aI_Rf, aL_I, aL_L, aL_Rf, aR_I, aR_L, aR_Rf]; rw [if_neg (by omega)])), (by first | rfl | (simp only [aI_I, aI_L, aI_Rf, aL_I, aL_L, aL_Rf, aR_I, aR_L, aR_Rf]; rw [if_neg (by omega)]))⟩) (fun e8 => (by first | rfl | (simp only [aI_I, aI_L, aI_Rf, aL_I, aL_L, aL_Rf, aR_I, aR_L, aR_Rf]; rw [if_neg (by omega)]))) (fun e8 => (by first | rfl | (simp only [aI_I, aI_L, aI_Rf, aL_I, aL_L, aL_Rf, aR_I, aR_L, aR_Rf]; rw [if_neg (by omega)]))) (fun e8 => (by first | rfl | (simp only [aI_I, aI_L, aI_Rf, aL_I, aL_L, aL_Rf, aR_I, aR_L, aR_Rf]; rw [if_neg (by omega)]))) hj) (fun j hj _ => layM_eq (fun _ => (by first | rfl | (simp only [aI_I, aI_L, aI_Rf, aL_I, aL_L, aL_Rf, aR_I, aR_L, aR_Rf]; rw [if_neg (by omega)]))) (fun k h1 h2 _ => (by first | rfl | (simp only [aI_I, aI_L, aI_Rf, aL_I, aL_L, aL_Rf, aR_I, aR_L, aR_Rf]; rw [if_neg (by omega)]))) (fun k h1 h2 _ => (by first | rfl | (simp only [aI_I, aI_L, aI_Rf, aL_I, aL_L, aL_Rf, aR_I, aR_L, aR_Rf]; rw [if_neg (by omega)]))) hj) (fun n' _ => layD_eq (fun k h1 h2 => (by first | rfl | (simp only [aI_I, aI_L, aI_Rf, aL_I, aL_L, aL_Rf, aR_I, aR_L, aR_Rf]; rw [if_neg (by omega)]))) (by first | rfl | (simp only [aI_I, aI_L, aI_Rf, aL_I, aL_L, aL_Rf, aR_I, aR_L, aR_Rf]; rw [if_neg (by omega)]))))
  rw [lay_P1 hp]; simp [layP, aI_I, aI_L, aI_Rf, aL_I, aL_L, aL_Rf, aR_I, aR_L, aR_Rf]
theorem wσ_cr {AC : Nat → ClassId} {Γ : Ev} {σ : St} {p : Nat} (hp : p < 80) (f : Nat → Int32) : wS (wσ AC Γ σ) (6 + 4 * p) (.inl (AC 0, 4, inA f)) = wσ AC Γ (σ.aI (100 + p) f) := by
  refine wσ_set ?_ (fun i hi => lay_eq hi (fun j _ _ => lay0_eq (by first | rfl | (simp only [aI_I, aI_L, aI_Rf, aL_I, aL_L, aL_Rf, aR_I, aR_L, aR_Rf]; rw [if_neg (by omega)])) (by first | rfl | (simp only [aI_I, aI_L, aI_Rf, aL_I, aL_L, aL_Rf, aR_I, aR_L, aR_Rf]; rw [if_neg (by omega)]))) (fun p' j hp' hj hne => layP_eq (fun _ => ⟨(by first | rfl | (simp only [aI_I, aI_L, aI_Rf, aL_I, aL_L, aL_Rf, aR_I, aR_L, aR_Rf]; rw [if_neg (by omega)])), (by first | rfl | (simp only [aI_I, aI_L, aI_Rf, aL_I, aL_L, aL_Rf, aR_I, aR_L, aR_Rf]; rw [if_neg (by omega)])), (by first | rfl | (simp only [aI_I, aI_L, aI_Rf, aL_I, aL_L, aL_Rf, aR_I, aR_L, aR_Rf]; rw [if_neg (by omega)])), (by first | rfl | (simp only [aI_I, aI_L, aI_Rf, aL_I, aL_L, aL_Rf, aR_I, aR_L, aR_Rf]; rw [if_neg (by omega)])), (by first | rfl | (simp only [aI_I, aI_L, aI_Rf, aL_I, aL_L, aL_Rf, aR_I, aR_L, aR_Rf]; rw [if_neg (by omega)])), (by first | rfl | (simp only [aI_I, aI_L, aI_Rf, aL_I, aL_L, aL_Rf, aR_I, aR_L, aR_Rf]; rw [if_neg (by omega)]))⟩) (fun e8 => (by first | rfl | (simp only [aI_I, aI_L, aI_Rf, aL_I, aL_L, aL_Rf, aR_I, aR_L, aR_Rf]; rw [if_neg (by omega)]))) (fun e8 => (by first | rfl | (simp only [aI_I, aI_L, aI_Rf, aL_I, aL_L, aL_Rf, aR_I, aR_L, aR_Rf]; rw [if_neg (by omega)]))) (fun e8 => (by first | rfl | (simp only [aI_I, aI_L, aI_Rf, aL_I, aL_L, aL_Rf, aR_I, aR_L, aR_Rf]; rw [if_neg (by omega)]))) hj) (fun j hj _ => layM_eq (fun _ => (by first | rfl | (simp only [aI_I, aI_L, aI_Rf, aL_I, aL_L, aL_Rf, aR_I, aR_L, aR_Rf]; rw [if_neg (by omega)]))) (fun k h1 h2 _ => (by first | rfl | (simp only [aI_I, aI_L, aI_Rf, aL_I, aL_L, aL_Rf, aR_I, aR_L, aR_Rf]; rw [if_neg (by omega)]))) (fun k h1 h2 _ => (by first | rfl | (simp only [aI_I, aI_L, aI_Rf, aL_I, aL_L, aL_Rf, aR_I, aR_L, aR_Rf]; rw [if_neg (by omega)]))) hj) (fun n' _ => layD_eq (fun k h1 h2 => (by first | rfl | (simp only [aI_I, aI_L, aI_Rf, aL_I, aL_L, aL_Rf, aR_I, aR_L, aR_Rf]; rw [if_neg (by omega)]))) (by first | rfl | (simp only [aI_I, aI_L, aI_Rf, aL_I, aL_L, aL_Rf, aR_I, aR_L, aR_Rf]; rw [if_neg (by omega)]))))
  rw [lay_P2 hp]; simp [layP, aI_I, aI_L, aI_Rf, aL_I, aL_L, aL_Rf, aR_I, aR_L, aR_Rf]
theorem wσ_am {AC : Nat → ClassId} {Γ : Ev} {σ : St} {p : Nat} (hp : p < 80) (f : Nat → Int32) : wS (wσ AC Γ σ) (7 + 4 * p) (.inl (AC 0, 4, inA f)) = wσ AC Γ (σ.aI (200 + p) f) := by
  refine wσ_set ?_ (fun i hi => lay_eq hi (fun j _ _ => lay0_eq (by first | rfl | (simp only [aI_I, aI_L, aI_Rf, aL_I, aL_L, aL_Rf, aR_I, aR_L, aR_Rf]; rw [if_neg (by omega)])) (by first | rfl | (simp only [aI_I, aI_L, aI_Rf, aL_I, aL_L, aL_Rf, aR_I, aR_L, aR_Rf]; rw [if_neg (by omega)]))) (fun p' j hp' hj hne => layP_eq (fun _ => ⟨(by first | rfl | (simp only [aI_I, aI_L, aI_Rf, aL_I, aL_L, aL_Rf, aR_I, aR_L, aR_Rf]; rw [if_neg (by omega)])), (by first | rfl | (simp only [aI_I, aI_L, aI_Rf, aL_I, aL_L, aL_Rf, aR_I, aR_L, aR_Rf]; rw [if_neg (by omega)])), (by first | rfl | (simp only [aI_I, aI_L, aI_Rf, aL_I, aL_L, aL_Rf, aR_I, aR_L, aR_Rf]; rw [if_neg (by omega)])), (by first | rfl | (simp only [aI_I, aI_L, aI_Rf, aL_I, aL_L, aL_Rf, aR_I, aR_L, aR_Rf]; rw [if_neg (by omega)])), (by first | rfl | (simp only [aI_I, aI_L, aI_Rf, aL_I, aL_L, aL_Rf, aR_I, aR_L, aR_Rf]; rw [if_neg (by omega)])), (by first | rfl | (simp only [aI_I, aI_L, aI_Rf, aL_I, aL_L, aL_Rf, aR_I, aR_L, aR_Rf]; rw [if_neg (by omega)]))⟩) (fun e8 => (by first | rfl | (simp only [aI_I, aI_L, aI_Rf, aL_I, aL_L, aL_Rf, aR_I, aR_L, aR_Rf]; rw [if_neg (by omega)]))) (fun e8 => (by first | rfl | (simp only [aI_I, aI_L, aI_Rf, aL_I, aL_L, aL_Rf, aR_I, aR_L, aR_Rf]; rw [if_neg (by omega)]))) (fun e8 => (by first | rfl | (simp only [aI_I, aI_L, aI_Rf, aL_I, aL_L, aL_Rf, aR_I, aR_L, aR_Rf]; rw [if_neg (by omega)]))) hj) (fun j hj _ => layM_eq (fun _ => (by first | rfl | (simp only [aI_I, aI_L, aI_Rf, aL_I, aL_L, aL_Rf, aR_I, aR_L, aR_Rf]; rw [if_neg (by omega)]))) (fun k h1 h2 _ => (by first | rfl | (simp only [aI_I, aI_L, aI_Rf, aL_I, aL_L, aL_Rf, aR_I, aR_L, aR_Rf]; rw [if_neg (by omega)]))) (fun k h1 h2 _ => (by first | rfl | (simp only [aI_I, aI_L, aI_Rf, aL_I, aL_L, aL_Rf, aR_I, aR_L, aR_Rf]; rw [if_neg (by omega)]))) hj) (fun n' _ => layD_eq (fun k h1 h2 => (by first | rfl | (simp only [aI_I, aI_L, aI_Rf, aL_I, aL_L, aL_Rf, aR_I, aR_L, aR_Rf]; rw [if_neg (by omega)]))) (by first | rfl | (simp only [aI_I, aI_L, aI_Rf, aL_I, aL_L, aL_Rf, aR_I, aR_L, aR_Rf]; rw [if_neg (by omega)]))))
  rw [lay_P3 hp]; simp [layP, aI_I, aI_L, aI_Rf, aL_I, aL_L, aL_Rf, aR_I, aR_L, aR_Rf]
theorem wσ_filed {AC : Nat → ClassId} {Γ : Ev} {σ : St} (v : Int32) : wS (wσ AC Γ σ) 0 (.inr (0, [.ref (Γ.ad 1), .ref (Γ.ad 2), .ref (Γ.ad 3), .int v, .int (σ.I 0 1)])) = wσ AC Γ (σ.sI 0 0 v) := by
  refine wσ_set ?_ (fun i hi => lay_eq hi (fun j hj hne => by have hc : j = 1 ∨ j = 2 ∨ j = 3 := (by omega); rcases hc with rfl | rfl | rfl <;> rfl) (fun p' j hp' hj hne => layP_eq (fun _ => ⟨(by first | rfl | (simp only [aI_I, aI_L, aI_Rf, aL_I, aL_L, aL_Rf, aR_I, aR_L, aR_Rf]; rw [if_neg (by omega)])), (by first | rfl | (simp only [aI_I, aI_L, aI_Rf, aL_I, aL_L, aL_Rf, aR_I, aR_L, aR_Rf]; rw [if_neg (by omega)])), (by first | rfl | (simp only [aI_I, aI_L, aI_Rf, aL_I, aL_L, aL_Rf, aR_I, aR_L, aR_Rf]; rw [if_neg (by omega)])), (by first | rfl | (simp only [aI_I, aI_L, aI_Rf, aL_I, aL_L, aL_Rf, aR_I, aR_L, aR_Rf]; rw [if_neg (by omega)])), (by first | rfl | (simp only [aI_I, aI_L, aI_Rf, aL_I, aL_L, aL_Rf, aR_I, aR_L, aR_Rf]; rw [if_neg (by omega)])), (by first | rfl | (simp only [aI_I, aI_L, aI_Rf, aL_I, aL_L, aL_Rf, aR_I, aR_L, aR_Rf]; rw [if_neg (by omega)]))⟩) (fun _ => (by first | rfl | (simp only [aI_I, aI_L, aI_Rf, aL_I, aL_L, aL_Rf, aR_I, aR_L, aR_Rf]; rw [if_neg (by omega)]))) (fun _ => (by first | rfl | (simp only [aI_I, aI_L, aI_Rf, aL_I, aL_L, aL_Rf, aR_I, aR_L, aR_Rf]; rw [if_neg (by omega)]))) (fun _ => (by first | rfl | (simp only [aI_I, aI_L, aI_Rf, aL_I, aL_L, aL_Rf, aR_I, aR_L, aR_Rf]; rw [if_neg (by omega)]))) hj) (fun j hj _ => layM_eq (fun _ => (by first | rfl | (simp only [aI_I, aI_L, aI_Rf, aL_I, aL_L, aL_Rf, aR_I, aR_L, aR_Rf]; rw [if_neg (by omega)]))) (fun k h1 h2 _ => (by first | rfl | (simp only [aI_I, aI_L, aI_Rf, aL_I, aL_L, aL_Rf, aR_I, aR_L, aR_Rf]; rw [if_neg (by omega)]))) (fun k h1 h2 _ => (by first | rfl | (simp only [aI_I, aI_L, aI_Rf, aL_I, aL_L, aL_Rf, aR_I, aR_L, aR_Rf]; rw [if_neg (by omega)]))) hj) (fun n' _ => layD_eq (fun k h1 h2 => (by first | rfl | (simp only [aI_I, aI_L, aI_Rf, aL_I, aL_L, aL_Rf, aR_I, aR_L, aR_Rf]; rw [if_neg (by omega)]))) (by first | rfl | (simp only [aI_I, aI_L, aI_Rf, aL_I, aL_L, aL_Rf, aR_I, aR_L, aR_Rf]; rw [if_neg (by omega)]))))
  rw [lay_0 (by decide)]; simp [lay0, aI_I, aI_L, aI_Rf, aL_I, aL_L, aL_Rf, aR_I, aR_L, aR_Rf, upd]
theorem wσ_today {AC : Nat → ClassId} {Γ : Ev} {σ : St} (v : Int32) : wS (wσ AC Γ σ) 0 (.inr (0, [.ref (Γ.ad 1), .ref (Γ.ad 2), .ref (Γ.ad 3), .int (σ.I 0 0), .int v])) = wσ AC Γ (σ.sI 0 1 v) := by
  refine wσ_set ?_ (fun i hi => lay_eq hi (fun j hj hne => by have hc : j = 1 ∨ j = 2 ∨ j = 3 := (by omega); rcases hc with rfl | rfl | rfl <;> rfl) (fun p' j hp' hj hne => layP_eq (fun _ => ⟨(by first | rfl | (simp only [aI_I, aI_L, aI_Rf, aL_I, aL_L, aL_Rf, aR_I, aR_L, aR_Rf]; rw [if_neg (by omega)])), (by first | rfl | (simp only [aI_I, aI_L, aI_Rf, aL_I, aL_L, aL_Rf, aR_I, aR_L, aR_Rf]; rw [if_neg (by omega)])), (by first | rfl | (simp only [aI_I, aI_L, aI_Rf, aL_I, aL_L, aL_Rf, aR_I, aR_L, aR_Rf]; rw [if_neg (by omega)])), (by first | rfl | (simp only [aI_I, aI_L, aI_Rf, aL_I, aL_L, aL_Rf, aR_I, aR_L, aR_Rf]; rw [if_neg (by omega)])), (by first | rfl | (simp only [aI_I, aI_L, aI_Rf, aL_I, aL_L, aL_Rf, aR_I, aR_L, aR_Rf]; rw [if_neg (by omega)])), (by first | rfl | (simp only [aI_I, aI_L, aI_Rf, aL_I, aL_L, aL_Rf, aR_I, aR_L, aR_Rf]; rw [if_neg (by omega)]))⟩) (fun _ => (by first | rfl | (simp only [aI_I, aI_L, aI_Rf, aL_I, aL_L, aL_Rf, aR_I, aR_L, aR_Rf]; rw [if_neg (by omega)]))) (fun _ => (by first | rfl | (simp only [aI_I, aI_L, aI_Rf, aL_I, aL_L, aL_Rf, aR_I, aR_L, aR_Rf]; rw [if_neg (by omega)]))) (fun _ => (by first | rfl | (simp only [aI_I, aI_L, aI_Rf, aL_I, aL_L, aL_Rf, aR_I, aR_L, aR_Rf]; rw [if_neg (by omega)]))) hj) (fun j hj _ => layM_eq (fun _ => (by first | rfl | (simp only [aI_I, aI_L, aI_Rf, aL_I, aL_L, aL_Rf, aR_I, aR_L, aR_Rf]; rw [if_neg (by omega)]))) (fun k h1 h2 _ => (by first | rfl | (simp only [aI_I, aI_L, aI_Rf, aL_I, aL_L, aL_Rf, aR_I, aR_L, aR_Rf]; rw [if_neg (by omega)]))) (fun k h1 h2 _ => (by first | rfl | (simp only [aI_I, aI_L, aI_Rf, aL_I, aL_L, aL_Rf, aR_I, aR_L, aR_Rf]; rw [if_neg (by omega)]))) hj) (fun n' _ => layD_eq (fun k h1 h2 => (by first | rfl | (simp only [aI_I, aI_L, aI_Rf, aL_I, aL_L, aL_Rf, aR_I, aR_L, aR_Rf]; rw [if_neg (by omega)]))) (by first | rfl | (simp only [aI_I, aI_L, aI_Rf, aL_I, aL_L, aL_Rf, aR_I, aR_L, aR_Rf]; rw [if_neg (by omega)]))))
  rw [lay_0 (by decide)]; simp [lay0, aI_I, aI_L, aI_Rf, aL_I, aL_L, aL_Rf, aR_I, aR_L, aR_Rf, upd]
theorem wσ_bn {AC : Nat → ClassId} {Γ : Ev} {σ : St} (f : Nat → Option Nat) : wS (wσ AC Γ σ) 1 (.inl (AC 3, 40, rfA f)) = wσ AC Γ (σ.aR 0 f) := by
  refine wσ_set ?_ (fun i hi => lay_eq hi (fun j hj hne => by have hc : j = 0 ∨ j = 2 ∨ j = 3 := (by omega); rcases hc with rfl | rfl | rfl <;> rfl) (fun p' j hp' hj hne => layP_eq (fun _ => ⟨(by first | rfl | (simp only [aI_I, aI_L, aI_Rf, aL_I, aL_L, aL_Rf, aR_I, aR_L, aR_Rf]; rw [if_neg (by omega)])), (by first | rfl | (simp only [aI_I, aI_L, aI_Rf, aL_I, aL_L, aL_Rf, aR_I, aR_L, aR_Rf]; rw [if_neg (by omega)])), (by first | rfl | (simp only [aI_I, aI_L, aI_Rf, aL_I, aL_L, aL_Rf, aR_I, aR_L, aR_Rf]; rw [if_neg (by omega)])), (by first | rfl | (simp only [aI_I, aI_L, aI_Rf, aL_I, aL_L, aL_Rf, aR_I, aR_L, aR_Rf]; rw [if_neg (by omega)])), (by first | rfl | (simp only [aI_I, aI_L, aI_Rf, aL_I, aL_L, aL_Rf, aR_I, aR_L, aR_Rf]; rw [if_neg (by omega)])), (by first | rfl | (simp only [aI_I, aI_L, aI_Rf, aL_I, aL_L, aL_Rf, aR_I, aR_L, aR_Rf]; rw [if_neg (by omega)]))⟩) (fun _ => (by first | rfl | (simp only [aI_I, aI_L, aI_Rf, aL_I, aL_L, aL_Rf, aR_I, aR_L, aR_Rf]; rw [if_neg (by omega)]))) (fun _ => (by first | rfl | (simp only [aI_I, aI_L, aI_Rf, aL_I, aL_L, aL_Rf, aR_I, aR_L, aR_Rf]; rw [if_neg (by omega)]))) (fun _ => (by first | rfl | (simp only [aI_I, aI_L, aI_Rf, aL_I, aL_L, aL_Rf, aR_I, aR_L, aR_Rf]; rw [if_neg (by omega)]))) hj) (fun j hj _ => layM_eq (fun _ => (by first | rfl | (simp only [aI_I, aI_L, aI_Rf, aL_I, aL_L, aL_Rf, aR_I, aR_L, aR_Rf]; rw [if_neg (by omega)]))) (fun k h1 h2 _ => (by first | rfl | (simp only [aI_I, aI_L, aI_Rf, aL_I, aL_L, aL_Rf, aR_I, aR_L, aR_Rf]; rw [if_neg (by omega)]))) (fun k h1 h2 _ => (by first | rfl | (simp only [aI_I, aI_L, aI_Rf, aL_I, aL_L, aL_Rf, aR_I, aR_L, aR_Rf]; rw [if_neg (by omega)]))) hj) (fun n' _ => layD_eq (fun k h1 h2 => (by first | rfl | (simp only [aI_I, aI_L, aI_Rf, aL_I, aL_L, aL_Rf, aR_I, aR_L, aR_Rf]; rw [if_neg (by omega)]))) (by first | rfl | (simp only [aI_I, aI_L, aI_Rf, aL_I, aL_L, aL_Rf, aR_I, aR_L, aR_Rf]; rw [if_neg (by omega)]))))
  rw [lay_0 (by decide)]; simp [lay0, aI_I, aI_L, aI_Rf, aL_I, aL_L, aL_Rf, aR_I, aR_L, aR_Rf]
theorem wσ_bf {AC : Nat → ClassId} {Γ : Ev} {σ : St} (f : Nat → Option Nat) : wS (wσ AC Γ σ) 2 (.inl (AC 3, 40, rfA f)) = wσ AC Γ (σ.aR 1 f) := by
  refine wσ_set ?_ (fun i hi => lay_eq hi (fun j hj hne => by have hc : j = 0 ∨ j = 1 ∨ j = 3 := (by omega); rcases hc with rfl | rfl | rfl <;> rfl) (fun p' j hp' hj hne => layP_eq (fun _ => ⟨(by first | rfl | (simp only [aI_I, aI_L, aI_Rf, aL_I, aL_L, aL_Rf, aR_I, aR_L, aR_Rf]; rw [if_neg (by omega)])), (by first | rfl | (simp only [aI_I, aI_L, aI_Rf, aL_I, aL_L, aL_Rf, aR_I, aR_L, aR_Rf]; rw [if_neg (by omega)])), (by first | rfl | (simp only [aI_I, aI_L, aI_Rf, aL_I, aL_L, aL_Rf, aR_I, aR_L, aR_Rf]; rw [if_neg (by omega)])), (by first | rfl | (simp only [aI_I, aI_L, aI_Rf, aL_I, aL_L, aL_Rf, aR_I, aR_L, aR_Rf]; rw [if_neg (by omega)])), (by first | rfl | (simp only [aI_I, aI_L, aI_Rf, aL_I, aL_L, aL_Rf, aR_I, aR_L, aR_Rf]; rw [if_neg (by omega)])), (by first | rfl | (simp only [aI_I, aI_L, aI_Rf, aL_I, aL_L, aL_Rf, aR_I, aR_L, aR_Rf]; rw [if_neg (by omega)]))⟩) (fun _ => (by first | rfl | (simp only [aI_I, aI_L, aI_Rf, aL_I, aL_L, aL_Rf, aR_I, aR_L, aR_Rf]; rw [if_neg (by omega)]))) (fun _ => (by first | rfl | (simp only [aI_I, aI_L, aI_Rf, aL_I, aL_L, aL_Rf, aR_I, aR_L, aR_Rf]; rw [if_neg (by omega)]))) (fun _ => (by first | rfl | (simp only [aI_I, aI_L, aI_Rf, aL_I, aL_L, aL_Rf, aR_I, aR_L, aR_Rf]; rw [if_neg (by omega)]))) hj) (fun j hj _ => layM_eq (fun _ => (by first | rfl | (simp only [aI_I, aI_L, aI_Rf, aL_I, aL_L, aL_Rf, aR_I, aR_L, aR_Rf]; rw [if_neg (by omega)]))) (fun k h1 h2 _ => (by first | rfl | (simp only [aI_I, aI_L, aI_Rf, aL_I, aL_L, aL_Rf, aR_I, aR_L, aR_Rf]; rw [if_neg (by omega)]))) (fun k h1 h2 _ => (by first | rfl | (simp only [aI_I, aI_L, aI_Rf, aL_I, aL_L, aL_Rf, aR_I, aR_L, aR_Rf]; rw [if_neg (by omega)]))) hj) (fun n' _ => layD_eq (fun k h1 h2 => (by first | rfl | (simp only [aI_I, aI_L, aI_Rf, aL_I, aL_L, aL_Rf, aR_I, aR_L, aR_Rf]; rw [if_neg (by omega)]))) (by first | rfl | (simp only [aI_I, aI_L, aI_Rf, aL_I, aL_L, aL_Rf, aR_I, aR_L, aR_Rf]; rw [if_neg (by omega)]))))
  rw [lay_0 (by decide)]; simp [lay0, aI_I, aI_L, aI_Rf, aL_I, aL_L, aL_Rf, aR_I, aR_L, aR_Rf]
theorem wσ_mthrown {AC : Nat → ClassId} {Γ : Ev} {σ : St} (v : Int32) : wS (wσ AC Γ σ) 324 (.inr (11, [.int v, .int (σ.I 20 1), .int (σ.I 20 2), .ref (Γ.ad 325), .ref (Γ.ad 326), .ref (Γ.ad 327), .ref (Γ.ad 328), .ref (Γ.ad 329), .ref (Γ.ad 330), .ref (Γ.ad 331), .ref (Γ.ad 332), .ref (Γ.ad 333), .ref (Γ.ad 334), .ref (Γ.ad 335), .ref (Γ.ad 336), .ref (Γ.ad 337), .ref (Γ.ad 338), .ref (Γ.ad 339), .ref (Γ.ad 340), .ref (Γ.ad 341), .ref (Γ.ad 342)])) = wσ AC Γ (σ.sI 20 0 v) := by
  refine wσ_set ?_ (fun i hi => lay_eq hi (fun j _ _ => lay0_eq (by first | rfl | (simp only [aI_I, aI_L, aI_Rf, aL_I, aL_L, aL_Rf, aR_I, aR_L, aR_Rf]; rw [if_neg (by omega)])) (by first | rfl | (simp only [aI_I, aI_L, aI_Rf, aL_I, aL_L, aL_Rf, aR_I, aR_L, aR_Rf]; rw [if_neg (by omega)]))) (fun p' j hp' hj hne => layP_eq (fun _ => ⟨(by first | rfl | (simp only [aI_I, aI_L, aI_Rf, aL_I, aL_L, aL_Rf, aR_I, aR_L, aR_Rf]; rw [if_neg (by omega)])), (by first | rfl | (simp only [aI_I, aI_L, aI_Rf, aL_I, aL_L, aL_Rf, aR_I, aR_L, aR_Rf]; rw [if_neg (by omega)])), (by first | rfl | (simp only [aI_I, aI_L, aI_Rf, aL_I, aL_L, aL_Rf, aR_I, aR_L, aR_Rf]; rw [if_neg (by omega)])), (by first | rfl | (simp only [aI_I, aI_L, aI_Rf, aL_I, aL_L, aL_Rf, aR_I, aR_L, aR_Rf]; rw [if_neg (by omega)])), (by first | rfl | (simp only [aI_I, aI_L, aI_Rf, aL_I, aL_L, aL_Rf, aR_I, aR_L, aR_Rf]; rw [if_neg (by omega)])), (by first | rfl | (simp only [aI_I, aI_L, aI_Rf, aL_I, aL_L, aL_Rf, aR_I, aR_L, aR_Rf]; rw [if_neg (by omega)]))⟩) (fun _ => (by first | rfl | (simp only [aI_I, aI_L, aI_Rf, aL_I, aL_L, aL_Rf, aR_I, aR_L, aR_Rf]; rw [if_neg (by omega)]))) (fun _ => (by first | rfl | (simp only [aI_I, aI_L, aI_Rf, aL_I, aL_L, aL_Rf, aR_I, aR_L, aR_Rf]; rw [if_neg (by omega)]))) (fun _ => (by first | rfl | (simp only [aI_I, aI_L, aI_Rf, aL_I, aL_L, aL_Rf, aR_I, aR_L, aR_Rf]; rw [if_neg (by omega)]))) hj) (fun j hj hne => layM_eq (fun e8 => absurd e8 (by omega)) (fun k h1 h2 _ => (by first | rfl | (simp only [aI_I, aI_L, aI_Rf, aL_I, aL_L, aL_Rf, aR_I, aR_L, aR_Rf]; rw [if_neg (by omega)]))) (fun k h1 h2 _ => (by first | rfl | (simp only [aI_I, aI_L, aI_Rf, aL_I, aL_L, aL_Rf, aR_I, aR_L, aR_Rf]; rw [if_neg (by omega)]))) hj) (fun n' _ => layD_eq (fun k h1 h2 => (by first | rfl | (simp only [aI_I, aI_L, aI_Rf, aL_I, aL_L, aL_Rf, aR_I, aR_L, aR_Rf]; rw [if_neg (by omega)]))) (by first | rfl | (simp only [aI_I, aI_L, aI_Rf, aL_I, aL_L, aL_Rf, aR_I, aR_L, aR_Rf]; rw [if_neg (by omega)]))))
  rw [show (324 : Nat) = 324 + 0 from rfl, lay_M (by decide)]; simp [layM, aI_I, aI_L, aI_Rf, aL_I, aL_L, aL_Rf, aR_I, aR_L, aR_Rf, upd]
theorem wσ_mtoday {AC : Nat → ClassId} {Γ : Ev} {σ : St} (v : Int32) : wS (wσ AC Γ σ) 324 (.inr (11, [.int (σ.I 20 0), .int v, .int (σ.I 20 2), .ref (Γ.ad 325), .ref (Γ.ad 326), .ref (Γ.ad 327), .ref (Γ.ad 328), .ref (Γ.ad 329), .ref (Γ.ad 330), .ref (Γ.ad 331), .ref (Γ.ad 332), .ref (Γ.ad 333), .ref (Γ.ad 334), .ref (Γ.ad 335), .ref (Γ.ad 336), .ref (Γ.ad 337), .ref (Γ.ad 338), .ref (Γ.ad 339), .ref (Γ.ad 340), .ref (Γ.ad 341), .ref (Γ.ad 342)])) = wσ AC Γ (σ.sI 20 1 v) := by
  refine wσ_set ?_ (fun i hi => lay_eq hi (fun j _ _ => lay0_eq (by first | rfl | (simp only [aI_I, aI_L, aI_Rf, aL_I, aL_L, aL_Rf, aR_I, aR_L, aR_Rf]; rw [if_neg (by omega)])) (by first | rfl | (simp only [aI_I, aI_L, aI_Rf, aL_I, aL_L, aL_Rf, aR_I, aR_L, aR_Rf]; rw [if_neg (by omega)]))) (fun p' j hp' hj hne => layP_eq (fun _ => ⟨(by first | rfl | (simp only [aI_I, aI_L, aI_Rf, aL_I, aL_L, aL_Rf, aR_I, aR_L, aR_Rf]; rw [if_neg (by omega)])), (by first | rfl | (simp only [aI_I, aI_L, aI_Rf, aL_I, aL_L, aL_Rf, aR_I, aR_L, aR_Rf]; rw [if_neg (by omega)])), (by first | rfl | (simp only [aI_I, aI_L, aI_Rf, aL_I, aL_L, aL_Rf, aR_I, aR_L, aR_Rf]; rw [if_neg (by omega)])), (by first | rfl | (simp only [aI_I, aI_L, aI_Rf, aL_I, aL_L, aL_Rf, aR_I, aR_L, aR_Rf]; rw [if_neg (by omega)])), (by first | rfl | (simp only [aI_I, aI_L, aI_Rf, aL_I, aL_L, aL_Rf, aR_I, aR_L, aR_Rf]; rw [if_neg (by omega)])), (by first | rfl | (simp only [aI_I, aI_L, aI_Rf, aL_I, aL_L, aL_Rf, aR_I, aR_L, aR_Rf]; rw [if_neg (by omega)]))⟩) (fun _ => (by first | rfl | (simp only [aI_I, aI_L, aI_Rf, aL_I, aL_L, aL_Rf, aR_I, aR_L, aR_Rf]; rw [if_neg (by omega)]))) (fun _ => (by first | rfl | (simp only [aI_I, aI_L, aI_Rf, aL_I, aL_L, aL_Rf, aR_I, aR_L, aR_Rf]; rw [if_neg (by omega)]))) (fun _ => (by first | rfl | (simp only [aI_I, aI_L, aI_Rf, aL_I, aL_L, aL_Rf, aR_I, aR_L, aR_Rf]; rw [if_neg (by omega)]))) hj) (fun j hj hne => layM_eq (fun e8 => absurd e8 (by omega)) (fun k h1 h2 _ => (by first | rfl | (simp only [aI_I, aI_L, aI_Rf, aL_I, aL_L, aL_Rf, aR_I, aR_L, aR_Rf]; rw [if_neg (by omega)]))) (fun k h1 h2 _ => (by first | rfl | (simp only [aI_I, aI_L, aI_Rf, aL_I, aL_L, aL_Rf, aR_I, aR_L, aR_Rf]; rw [if_neg (by omega)]))) hj) (fun n' _ => layD_eq (fun k h1 h2 => (by first | rfl | (simp only [aI_I, aI_L, aI_Rf, aL_I, aL_L, aL_Rf, aR_I, aR_L, aR_Rf]; rw [if_neg (by omega)]))) (by first | rfl | (simp only [aI_I, aI_L, aI_Rf, aL_I, aL_L, aL_Rf, aR_I, aR_L, aR_Rf]; rw [if_neg (by omega)]))))
  rw [show (324 : Nat) = 324 + 0 from rfl, lay_M (by decide)]; simp [layM, aI_I, aI_L, aI_Rf, aL_I, aL_L, aL_Rf, aR_I, aR_L, aR_Rf, upd]
theorem wσ_mdeeds {AC : Nat → ClassId} {Γ : Ev} {σ : St} (v : Int32) : wS (wσ AC Γ σ) 324 (.inr (11, [.int (σ.I 20 0), .int (σ.I 20 1), .int v, .ref (Γ.ad 325), .ref (Γ.ad 326), .ref (Γ.ad 327), .ref (Γ.ad 328), .ref (Γ.ad 329), .ref (Γ.ad 330), .ref (Γ.ad 331), .ref (Γ.ad 332), .ref (Γ.ad 333), .ref (Γ.ad 334), .ref (Γ.ad 335), .ref (Γ.ad 336), .ref (Γ.ad 337), .ref (Γ.ad 338), .ref (Γ.ad 339), .ref (Γ.ad 340), .ref (Γ.ad 341), .ref (Γ.ad 342)])) = wσ AC Γ (σ.sI 20 2 v) := by
  refine wσ_set ?_ (fun i hi => lay_eq hi (fun j _ _ => lay0_eq (by first | rfl | (simp only [aI_I, aI_L, aI_Rf, aL_I, aL_L, aL_Rf, aR_I, aR_L, aR_Rf]; rw [if_neg (by omega)])) (by first | rfl | (simp only [aI_I, aI_L, aI_Rf, aL_I, aL_L, aL_Rf, aR_I, aR_L, aR_Rf]; rw [if_neg (by omega)]))) (fun p' j hp' hj hne => layP_eq (fun _ => ⟨(by first | rfl | (simp only [aI_I, aI_L, aI_Rf, aL_I, aL_L, aL_Rf, aR_I, aR_L, aR_Rf]; rw [if_neg (by omega)])), (by first | rfl | (simp only [aI_I, aI_L, aI_Rf, aL_I, aL_L, aL_Rf, aR_I, aR_L, aR_Rf]; rw [if_neg (by omega)])), (by first | rfl | (simp only [aI_I, aI_L, aI_Rf, aL_I, aL_L, aL_Rf, aR_I, aR_L, aR_Rf]; rw [if_neg (by omega)])), (by first | rfl | (simp only [aI_I, aI_L, aI_Rf, aL_I, aL_L, aL_Rf, aR_I, aR_L, aR_Rf]; rw [if_neg (by omega)])), (by first | rfl | (simp only [aI_I, aI_L, aI_Rf, aL_I, aL_L, aL_Rf, aR_I, aR_L, aR_Rf]; rw [if_neg (by omega)])), (by first | rfl | (simp only [aI_I, aI_L, aI_Rf, aL_I, aL_L, aL_Rf, aR_I, aR_L, aR_Rf]; rw [if_neg (by omega)]))⟩) (fun _ => (by first | rfl | (simp only [aI_I, aI_L, aI_Rf, aL_I, aL_L, aL_Rf, aR_I, aR_L, aR_Rf]; rw [if_neg (by omega)]))) (fun _ => (by first | rfl | (simp only [aI_I, aI_L, aI_Rf, aL_I, aL_L, aL_Rf, aR_I, aR_L, aR_Rf]; rw [if_neg (by omega)]))) (fun _ => (by first | rfl | (simp only [aI_I, aI_L, aI_Rf, aL_I, aL_L, aL_Rf, aR_I, aR_L, aR_Rf]; rw [if_neg (by omega)]))) hj) (fun j hj hne => layM_eq (fun e8 => absurd e8 (by omega)) (fun k h1 h2 _ => (by first | rfl | (simp only [aI_I, aI_L, aI_Rf, aL_I, aL_L, aL_Rf, aR_I, aR_L, aR_Rf]; rw [if_neg (by omega)]))) (fun k h1 h2 _ => (by first | rfl | (simp only [aI_I, aI_L, aI_Rf, aL_I, aL_L, aL_Rf, aR_I, aR_L, aR_Rf]; rw [if_neg (by omega)]))) hj) (fun n' _ => layD_eq (fun k h1 h2 => (by first | rfl | (simp only [aI_I, aI_L, aI_Rf, aL_I, aL_L, aL_Rf, aR_I, aR_L, aR_Rf]; rw [if_neg (by omega)]))) (by first | rfl | (simp only [aI_I, aI_L, aI_Rf, aL_I, aL_L, aL_Rf, aR_I, aR_L, aR_Rf]; rw [if_neg (by omega)]))))
  rw [show (324 : Nat) = 324 + 0 from rfl, lay_M (by decide)]; simp [layM, aI_I, aI_L, aI_Rf, aL_I, aL_L, aL_Rf, aR_I, aR_L, aR_Rf, upd]
theorem mreg_inj : ∀ j, j < 20 → ∀ i, i < 20 → mreg j ≠ none → mreg j = mreg i → j = i := by decide
theorem wσ_m_kind {AC : Nat → ClassId} {Γ : Ev} {σ : St} (f : Nat → Int32) : wS (wσ AC Γ σ) 325 (.inl (AC 0, 40, inA f)) = wσ AC Γ (σ.aI 21 f) := by
  refine wσ_set ?_ (fun i hi => lay_eq hi (fun j _ _ => lay0_eq (by first | rfl | (simp only [aI_I, aI_L, aI_Rf, aL_I, aL_L, aL_Rf, aR_I, aR_L, aR_Rf]; rw [if_neg (by omega)])) (by first | rfl | (simp only [aI_I, aI_L, aI_Rf, aL_I, aL_L, aL_Rf, aR_I, aR_L, aR_Rf]; rw [if_neg (by omega)]))) (fun p' j hp' hj hne => layP_eq (fun _ => ⟨(by first | rfl | (simp only [aI_I, aI_L, aI_Rf, aL_I, aL_L, aL_Rf, aR_I, aR_L, aR_Rf]; rw [if_neg (by omega)])), (by first | rfl | (simp only [aI_I, aI_L, aI_Rf, aL_I, aL_L, aL_Rf, aR_I, aR_L, aR_Rf]; rw [if_neg (by omega)])), (by first | rfl | (simp only [aI_I, aI_L, aI_Rf, aL_I, aL_L, aL_Rf, aR_I, aR_L, aR_Rf]; rw [if_neg (by omega)])), (by first | rfl | (simp only [aI_I, aI_L, aI_Rf, aL_I, aL_L, aL_Rf, aR_I, aR_L, aR_Rf]; rw [if_neg (by omega)])), (by first | rfl | (simp only [aI_I, aI_L, aI_Rf, aL_I, aL_L, aL_Rf, aR_I, aR_L, aR_Rf]; rw [if_neg (by omega)])), (by first | rfl | (simp only [aI_I, aI_L, aI_Rf, aL_I, aL_L, aL_Rf, aR_I, aR_L, aR_Rf]; rw [if_neg (by omega)]))⟩) (fun _ => (by first | rfl | (simp only [aI_I, aI_L, aI_Rf, aL_I, aL_L, aL_Rf, aR_I, aR_L, aR_Rf]; rw [if_neg (by omega)]))) (fun _ => (by first | rfl | (simp only [aI_I, aI_L, aI_Rf, aL_I, aL_L, aL_Rf, aR_I, aR_L, aR_Rf]; rw [if_neg (by omega)]))) (fun _ => (by first | rfl | (simp only [aI_I, aI_L, aI_Rf, aL_I, aL_L, aL_Rf, aR_I, aR_L, aR_Rf]; rw [if_neg (by omega)]))) hj) (fun j hj hne => layM_eq (fun _ => (by first | rfl | (simp only [aI_I, aI_L, aI_Rf, aL_I, aL_L, aL_Rf, aR_I, aR_L, aR_Rf]; rw [if_neg (by omega)]))) (fun k h1 h2 h3 => (by have hk : ¬ k = 21 := (fun e9 => hne (congrArg (324 + ·) (mreg_inj j hj 1 (by decide) (by rw [h3]; exact fun z => nomatch z) (by rw [h3, e9]; rfl)))); simp only [aI_I, aI_L, aI_Rf, aL_I, aL_L, aL_Rf, aR_I, aR_L, aR_Rf]; rw [if_neg hk])) (fun k h1 h2 h3 => (by first | rfl | (simp only [aI_I, aI_L, aI_Rf, aL_I, aL_L, aL_Rf, aR_I, aR_L, aR_Rf]; rw [if_neg (by omega)]))) hj) (fun n' _ => layD_eq (fun k h1 h2 => (by first | rfl | (simp only [aI_I, aI_L, aI_Rf, aL_I, aL_L, aL_Rf, aR_I, aR_L, aR_Rf]; rw [if_neg (by omega)]))) (by first | rfl | (simp only [aI_I, aI_L, aI_Rf, aL_I, aL_L, aL_Rf, aR_I, aR_L, aR_Rf]; rw [if_neg (by omega)]))))
  rw [show (325 : Nat) = 324 + 1 from rfl, lay_M (by decide)]; simp [layM, aI_I, aI_L, aI_Rf, aL_I, aL_L, aL_Rf, aR_I, aR_L, aR_Rf]
theorem wσ_m_record {AC : Nat → ClassId} {Γ : Ev} {σ : St} (f : Nat → Int32) : wS (wσ AC Γ σ) 326 (.inl (AC 0, 40, inA f)) = wσ AC Γ (σ.aI 22 f) := by
  refine wσ_set ?_ (fun i hi => lay_eq hi (fun j _ _ => lay0_eq (by first | rfl | (simp only [aI_I, aI_L, aI_Rf, aL_I, aL_L, aL_Rf, aR_I, aR_L, aR_Rf]; rw [if_neg (by omega)])) (by first | rfl | (simp only [aI_I, aI_L, aI_Rf, aL_I, aL_L, aL_Rf, aR_I, aR_L, aR_Rf]; rw [if_neg (by omega)]))) (fun p' j hp' hj hne => layP_eq (fun _ => ⟨(by first | rfl | (simp only [aI_I, aI_L, aI_Rf, aL_I, aL_L, aL_Rf, aR_I, aR_L, aR_Rf]; rw [if_neg (by omega)])), (by first | rfl | (simp only [aI_I, aI_L, aI_Rf, aL_I, aL_L, aL_Rf, aR_I, aR_L, aR_Rf]; rw [if_neg (by omega)])), (by first | rfl | (simp only [aI_I, aI_L, aI_Rf, aL_I, aL_L, aL_Rf, aR_I, aR_L, aR_Rf]; rw [if_neg (by omega)])), (by first | rfl | (simp only [aI_I, aI_L, aI_Rf, aL_I, aL_L, aL_Rf, aR_I, aR_L, aR_Rf]; rw [if_neg (by omega)])), (by first | rfl | (simp only [aI_I, aI_L, aI_Rf, aL_I, aL_L, aL_Rf, aR_I, aR_L, aR_Rf]; rw [if_neg (by omega)])), (by first | rfl | (simp only [aI_I, aI_L, aI_Rf, aL_I, aL_L, aL_Rf, aR_I, aR_L, aR_Rf]; rw [if_neg (by omega)]))⟩) (fun _ => (by first | rfl | (simp only [aI_I, aI_L, aI_Rf, aL_I, aL_L, aL_Rf, aR_I, aR_L, aR_Rf]; rw [if_neg (by omega)]))) (fun _ => (by first | rfl | (simp only [aI_I, aI_L, aI_Rf, aL_I, aL_L, aL_Rf, aR_I, aR_L, aR_Rf]; rw [if_neg (by omega)]))) (fun _ => (by first | rfl | (simp only [aI_I, aI_L, aI_Rf, aL_I, aL_L, aL_Rf, aR_I, aR_L, aR_Rf]; rw [if_neg (by omega)]))) hj) (fun j hj hne => layM_eq (fun _ => (by first | rfl | (simp only [aI_I, aI_L, aI_Rf, aL_I, aL_L, aL_Rf, aR_I, aR_L, aR_Rf]; rw [if_neg (by omega)]))) (fun k h1 h2 h3 => (by have hk : ¬ k = 22 := (fun e9 => hne (congrArg (324 + ·) (mreg_inj j hj 2 (by decide) (by rw [h3]; exact fun z => nomatch z) (by rw [h3, e9]; rfl)))); simp only [aI_I, aI_L, aI_Rf, aL_I, aL_L, aL_Rf, aR_I, aR_L, aR_Rf]; rw [if_neg hk])) (fun k h1 h2 h3 => (by first | rfl | (simp only [aI_I, aI_L, aI_Rf, aL_I, aL_L, aL_Rf, aR_I, aR_L, aR_Rf]; rw [if_neg (by omega)]))) hj) (fun n' _ => layD_eq (fun k h1 h2 => (by first | rfl | (simp only [aI_I, aI_L, aI_Rf, aL_I, aL_L, aL_Rf, aR_I, aR_L, aR_Rf]; rw [if_neg (by omega)]))) (by first | rfl | (simp only [aI_I, aI_L, aI_Rf, aL_I, aL_L, aL_Rf, aR_I, aR_L, aR_Rf]; rw [if_neg (by omega)]))))
  rw [show (326 : Nat) = 324 + 2 from rfl, lay_M (by decide)]; simp [layM, aI_I, aI_L, aI_Rf, aL_I, aL_L, aL_Rf, aR_I, aR_L, aR_Rf]
theorem wσ_m_fact {AC : Nat → ClassId} {Γ : Ev} {σ : St} (f : Nat → Int32) : wS (wσ AC Γ σ) 327 (.inl (AC 0, 40, inA f)) = wσ AC Γ (σ.aI 23 f) := by
  refine wσ_set ?_ (fun i hi => lay_eq hi (fun j _ _ => lay0_eq (by first | rfl | (simp only [aI_I, aI_L, aI_Rf, aL_I, aL_L, aL_Rf, aR_I, aR_L, aR_Rf]; rw [if_neg (by omega)])) (by first | rfl | (simp only [aI_I, aI_L, aI_Rf, aL_I, aL_L, aL_Rf, aR_I, aR_L, aR_Rf]; rw [if_neg (by omega)]))) (fun p' j hp' hj hne => layP_eq (fun _ => ⟨(by first | rfl | (simp only [aI_I, aI_L, aI_Rf, aL_I, aL_L, aL_Rf, aR_I, aR_L, aR_Rf]; rw [if_neg (by omega)])), (by first | rfl | (simp only [aI_I, aI_L, aI_Rf, aL_I, aL_L, aL_Rf, aR_I, aR_L, aR_Rf]; rw [if_neg (by omega)])), (by first | rfl | (simp only [aI_I, aI_L, aI_Rf, aL_I, aL_L, aL_Rf, aR_I, aR_L, aR_Rf]; rw [if_neg (by omega)])), (by first | rfl | (simp only [aI_I, aI_L, aI_Rf, aL_I, aL_L, aL_Rf, aR_I, aR_L, aR_Rf]; rw [if_neg (by omega)])), (by first | rfl | (simp only [aI_I, aI_L, aI_Rf, aL_I, aL_L, aL_Rf, aR_I, aR_L, aR_Rf]; rw [if_neg (by omega)])), (by first | rfl | (simp only [aI_I, aI_L, aI_Rf, aL_I, aL_L, aL_Rf, aR_I, aR_L, aR_Rf]; rw [if_neg (by omega)]))⟩) (fun _ => (by first | rfl | (simp only [aI_I, aI_L, aI_Rf, aL_I, aL_L, aL_Rf, aR_I, aR_L, aR_Rf]; rw [if_neg (by omega)]))) (fun _ => (by first | rfl | (simp only [aI_I, aI_L, aI_Rf, aL_I, aL_L, aL_Rf, aR_I, aR_L, aR_Rf]; rw [if_neg (by omega)]))) (fun _ => (by first | rfl | (simp only [aI_I, aI_L, aI_Rf, aL_I, aL_L, aL_Rf, aR_I, aR_L, aR_Rf]; rw [if_neg (by omega)]))) hj) (fun j hj hne => layM_eq (fun _ => (by first | rfl | (simp only [aI_I, aI_L, aI_Rf, aL_I, aL_L, aL_Rf, aR_I, aR_L, aR_Rf]; rw [if_neg (by omega)]))) (fun k h1 h2 h3 => (by have hk : ¬ k = 23 := (fun e9 => hne (congrArg (324 + ·) (mreg_inj j hj 3 (by decide) (by rw [h3]; exact fun z => nomatch z) (by rw [h3, e9]; rfl)))); simp only [aI_I, aI_L, aI_Rf, aL_I, aL_L, aL_Rf, aR_I, aR_L, aR_Rf]; rw [if_neg hk])) (fun k h1 h2 h3 => (by first | rfl | (simp only [aI_I, aI_L, aI_Rf, aL_I, aL_L, aL_Rf, aR_I, aR_L, aR_Rf]; rw [if_neg (by omega)]))) hj) (fun n' _ => layD_eq (fun k h1 h2 => (by first | rfl | (simp only [aI_I, aI_L, aI_Rf, aL_I, aL_L, aL_Rf, aR_I, aR_L, aR_Rf]; rw [if_neg (by omega)]))) (by first | rfl | (simp only [aI_I, aI_L, aI_Rf, aL_I, aL_L, aL_Rf, aR_I, aR_L, aR_Rf]; rw [if_neg (by omega)]))))
  rw [show (327 : Nat) = 324 + 3 from rfl, lay_M (by decide)]; simp [layM, aI_I, aI_L, aI_Rf, aL_I, aL_L, aL_Rf, aR_I, aR_L, aR_Rf]
theorem wσ_m_first {AC : Nat → ClassId} {Γ : Ev} {σ : St} (f : Nat → Int32) : wS (wσ AC Γ σ) 328 (.inl (AC 0, 40, inA f)) = wσ AC Γ (σ.aI 24 f) := by
  refine wσ_set ?_ (fun i hi => lay_eq hi (fun j _ _ => lay0_eq (by first | rfl | (simp only [aI_I, aI_L, aI_Rf, aL_I, aL_L, aL_Rf, aR_I, aR_L, aR_Rf]; rw [if_neg (by omega)])) (by first | rfl | (simp only [aI_I, aI_L, aI_Rf, aL_I, aL_L, aL_Rf, aR_I, aR_L, aR_Rf]; rw [if_neg (by omega)]))) (fun p' j hp' hj hne => layP_eq (fun _ => ⟨(by first | rfl | (simp only [aI_I, aI_L, aI_Rf, aL_I, aL_L, aL_Rf, aR_I, aR_L, aR_Rf]; rw [if_neg (by omega)])), (by first | rfl | (simp only [aI_I, aI_L, aI_Rf, aL_I, aL_L, aL_Rf, aR_I, aR_L, aR_Rf]; rw [if_neg (by omega)])), (by first | rfl | (simp only [aI_I, aI_L, aI_Rf, aL_I, aL_L, aL_Rf, aR_I, aR_L, aR_Rf]; rw [if_neg (by omega)])), (by first | rfl | (simp only [aI_I, aI_L, aI_Rf, aL_I, aL_L, aL_Rf, aR_I, aR_L, aR_Rf]; rw [if_neg (by omega)])), (by first | rfl | (simp only [aI_I, aI_L, aI_Rf, aL_I, aL_L, aL_Rf, aR_I, aR_L, aR_Rf]; rw [if_neg (by omega)])), (by first | rfl | (simp only [aI_I, aI_L, aI_Rf, aL_I, aL_L, aL_Rf, aR_I, aR_L, aR_Rf]; rw [if_neg (by omega)]))⟩) (fun _ => (by first | rfl | (simp only [aI_I, aI_L, aI_Rf, aL_I, aL_L, aL_Rf, aR_I, aR_L, aR_Rf]; rw [if_neg (by omega)]))) (fun _ => (by first | rfl | (simp only [aI_I, aI_L, aI_Rf, aL_I, aL_L, aL_Rf, aR_I, aR_L, aR_Rf]; rw [if_neg (by omega)]))) (fun _ => (by first | rfl | (simp only [aI_I, aI_L, aI_Rf, aL_I, aL_L, aL_Rf, aR_I, aR_L, aR_Rf]; rw [if_neg (by omega)]))) hj) (fun j hj hne => layM_eq (fun _ => (by first | rfl | (simp only [aI_I, aI_L, aI_Rf, aL_I, aL_L, aL_Rf, aR_I, aR_L, aR_Rf]; rw [if_neg (by omega)]))) (fun k h1 h2 h3 => (by have hk : ¬ k = 24 := (fun e9 => hne (congrArg (324 + ·) (mreg_inj j hj 4 (by decide) (by rw [h3]; exact fun z => nomatch z) (by rw [h3, e9]; rfl)))); simp only [aI_I, aI_L, aI_Rf, aL_I, aL_L, aL_Rf, aR_I, aR_L, aR_Rf]; rw [if_neg hk])) (fun k h1 h2 h3 => (by first | rfl | (simp only [aI_I, aI_L, aI_Rf, aL_I, aL_L, aL_Rf, aR_I, aR_L, aR_Rf]; rw [if_neg (by omega)]))) hj) (fun n' _ => layD_eq (fun k h1 h2 => (by first | rfl | (simp only [aI_I, aI_L, aI_Rf, aL_I, aL_L, aL_Rf, aR_I, aR_L, aR_Rf]; rw [if_neg (by omega)]))) (by first | rfl | (simp only [aI_I, aI_L, aI_Rf, aL_I, aL_L, aL_Rf, aR_I, aR_L, aR_Rf]; rw [if_neg (by omega)]))))
  rw [show (328 : Nat) = 324 + 4 from rfl, lay_M (by decide)]; simp [layM, aI_I, aI_L, aI_Rf, aL_I, aL_L, aL_Rf, aR_I, aR_L, aR_Rf]
theorem wσ_m_second {AC : Nat → ClassId} {Γ : Ev} {σ : St} (f : Nat → Int32) : wS (wσ AC Γ σ) 329 (.inl (AC 0, 40, inA f)) = wσ AC Γ (σ.aI 25 f) := by
  refine wσ_set ?_ (fun i hi => lay_eq hi (fun j _ _ => lay0_eq (by first | rfl | (simp only [aI_I, aI_L, aI_Rf, aL_I, aL_L, aL_Rf, aR_I, aR_L, aR_Rf]; rw [if_neg (by omega)])) (by first | rfl | (simp only [aI_I, aI_L, aI_Rf, aL_I, aL_L, aL_Rf, aR_I, aR_L, aR_Rf]; rw [if_neg (by omega)]))) (fun p' j hp' hj hne => layP_eq (fun _ => ⟨(by first | rfl | (simp only [aI_I, aI_L, aI_Rf, aL_I, aL_L, aL_Rf, aR_I, aR_L, aR_Rf]; rw [if_neg (by omega)])), (by first | rfl | (simp only [aI_I, aI_L, aI_Rf, aL_I, aL_L, aL_Rf, aR_I, aR_L, aR_Rf]; rw [if_neg (by omega)])), (by first | rfl | (simp only [aI_I, aI_L, aI_Rf, aL_I, aL_L, aL_Rf, aR_I, aR_L, aR_Rf]; rw [if_neg (by omega)])), (by first | rfl | (simp only [aI_I, aI_L, aI_Rf, aL_I, aL_L, aL_Rf, aR_I, aR_L, aR_Rf]; rw [if_neg (by omega)])), (by first | rfl | (simp only [aI_I, aI_L, aI_Rf, aL_I, aL_L, aL_Rf, aR_I, aR_L, aR_Rf]; rw [if_neg (by omega)])), (by first | rfl | (simp only [aI_I, aI_L, aI_Rf, aL_I, aL_L, aL_Rf, aR_I, aR_L, aR_Rf]; rw [if_neg (by omega)]))⟩) (fun _ => (by first | rfl | (simp only [aI_I, aI_L, aI_Rf, aL_I, aL_L, aL_Rf, aR_I, aR_L, aR_Rf]; rw [if_neg (by omega)]))) (fun _ => (by first | rfl | (simp only [aI_I, aI_L, aI_Rf, aL_I, aL_L, aL_Rf, aR_I, aR_L, aR_Rf]; rw [if_neg (by omega)]))) (fun _ => (by first | rfl | (simp only [aI_I, aI_L, aI_Rf, aL_I, aL_L, aL_Rf, aR_I, aR_L, aR_Rf]; rw [if_neg (by omega)]))) hj) (fun j hj hne => layM_eq (fun _ => (by first | rfl | (simp only [aI_I, aI_L, aI_Rf, aL_I, aL_L, aL_Rf, aR_I, aR_L, aR_Rf]; rw [if_neg (by omega)]))) (fun k h1 h2 h3 => (by have hk : ¬ k = 25 := (fun e9 => hne (congrArg (324 + ·) (mreg_inj j hj 5 (by decide) (by rw [h3]; exact fun z => nomatch z) (by rw [h3, e9]; rfl)))); simp only [aI_I, aI_L, aI_Rf, aL_I, aL_L, aL_Rf, aR_I, aR_L, aR_Rf]; rw [if_neg hk])) (fun k h1 h2 h3 => (by first | rfl | (simp only [aI_I, aI_L, aI_Rf, aL_I, aL_L, aL_Rf, aR_I, aR_L, aR_Rf]; rw [if_neg (by omega)]))) hj) (fun n' _ => layD_eq (fun k h1 h2 => (by first | rfl | (simp only [aI_I, aI_L, aI_Rf, aL_I, aL_L, aL_Rf, aR_I, aR_L, aR_Rf]; rw [if_neg (by omega)]))) (by first | rfl | (simp only [aI_I, aI_L, aI_Rf, aL_I, aL_L, aL_Rf, aR_I, aR_L, aR_Rf]; rw [if_neg (by omega)]))))
  rw [show (329 : Nat) = 324 + 5 from rfl, lay_M (by decide)]; simp [layM, aI_I, aI_L, aI_Rf, aL_I, aL_L, aL_Rf, aR_I, aR_L, aR_Rf]
theorem wσ_m_third {AC : Nat → ClassId} {Γ : Ev} {σ : St} (f : Nat → Int32) : wS (wσ AC Γ σ) 330 (.inl (AC 0, 40, inA f)) = wσ AC Γ (σ.aI 26 f) := by
  refine wσ_set ?_ (fun i hi => lay_eq hi (fun j _ _ => lay0_eq (by first | rfl | (simp only [aI_I, aI_L, aI_Rf, aL_I, aL_L, aL_Rf, aR_I, aR_L, aR_Rf]; rw [if_neg (by omega)])) (by first | rfl | (simp only [aI_I, aI_L, aI_Rf, aL_I, aL_L, aL_Rf, aR_I, aR_L, aR_Rf]; rw [if_neg (by omega)]))) (fun p' j hp' hj hne => layP_eq (fun _ => ⟨(by first | rfl | (simp only [aI_I, aI_L, aI_Rf, aL_I, aL_L, aL_Rf, aR_I, aR_L, aR_Rf]; rw [if_neg (by omega)])), (by first | rfl | (simp only [aI_I, aI_L, aI_Rf, aL_I, aL_L, aL_Rf, aR_I, aR_L, aR_Rf]; rw [if_neg (by omega)])), (by first | rfl | (simp only [aI_I, aI_L, aI_Rf, aL_I, aL_L, aL_Rf, aR_I, aR_L, aR_Rf]; rw [if_neg (by omega)])), (by first | rfl | (simp only [aI_I, aI_L, aI_Rf, aL_I, aL_L, aL_Rf, aR_I, aR_L, aR_Rf]; rw [if_neg (by omega)])), (by first | rfl | (simp only [aI_I, aI_L, aI_Rf, aL_I, aL_L, aL_Rf, aR_I, aR_L, aR_Rf]; rw [if_neg (by omega)])), (by first | rfl | (simp only [aI_I, aI_L, aI_Rf, aL_I, aL_L, aL_Rf, aR_I, aR_L, aR_Rf]; rw [if_neg (by omega)]))⟩) (fun _ => (by first | rfl | (simp only [aI_I, aI_L, aI_Rf, aL_I, aL_L, aL_Rf, aR_I, aR_L, aR_Rf]; rw [if_neg (by omega)]))) (fun _ => (by first | rfl | (simp only [aI_I, aI_L, aI_Rf, aL_I, aL_L, aL_Rf, aR_I, aR_L, aR_Rf]; rw [if_neg (by omega)]))) (fun _ => (by first | rfl | (simp only [aI_I, aI_L, aI_Rf, aL_I, aL_L, aL_Rf, aR_I, aR_L, aR_Rf]; rw [if_neg (by omega)]))) hj) (fun j hj hne => layM_eq (fun _ => (by first | rfl | (simp only [aI_I, aI_L, aI_Rf, aL_I, aL_L, aL_Rf, aR_I, aR_L, aR_Rf]; rw [if_neg (by omega)]))) (fun k h1 h2 h3 => (by have hk : ¬ k = 26 := (fun e9 => hne (congrArg (324 + ·) (mreg_inj j hj 6 (by decide) (by rw [h3]; exact fun z => nomatch z) (by rw [h3, e9]; rfl)))); simp only [aI_I, aI_L, aI_Rf, aL_I, aL_L, aL_Rf, aR_I, aR_L, aR_Rf]; rw [if_neg hk])) (fun k h1 h2 h3 => (by first | rfl | (simp only [aI_I, aI_L, aI_Rf, aL_I, aL_L, aL_Rf, aR_I, aR_L, aR_Rf]; rw [if_neg (by omega)]))) hj) (fun n' _ => layD_eq (fun k h1 h2 => (by first | rfl | (simp only [aI_I, aI_L, aI_Rf, aL_I, aL_L, aL_Rf, aR_I, aR_L, aR_Rf]; rw [if_neg (by omega)]))) (by first | rfl | (simp only [aI_I, aI_L, aI_Rf, aL_I, aL_L, aL_Rf, aR_I, aR_L, aR_Rf]; rw [if_neg (by omega)]))))
  rw [show (330 : Nat) = 324 + 6 from rfl, lay_M (by decide)]; simp [layM, aI_I, aI_L, aI_Rf, aL_I, aL_L, aL_Rf, aR_I, aR_L, aR_Rf]
theorem wσ_m_fourth {AC : Nat → ClassId} {Γ : Ev} {σ : St} (f : Nat → Int32) : wS (wσ AC Γ σ) 331 (.inl (AC 0, 40, inA f)) = wσ AC Γ (σ.aI 27 f) := by
  refine wσ_set ?_ (fun i hi => lay_eq hi (fun j _ _ => lay0_eq (by first | rfl | (simp only [aI_I, aI_L, aI_Rf, aL_I, aL_L, aL_Rf, aR_I, aR_L, aR_Rf]; rw [if_neg (by omega)])) (by first | rfl | (simp only [aI_I, aI_L, aI_Rf, aL_I, aL_L, aL_Rf, aR_I, aR_L, aR_Rf]; rw [if_neg (by omega)]))) (fun p' j hp' hj hne => layP_eq (fun _ => ⟨(by first | rfl | (simp only [aI_I, aI_L, aI_Rf, aL_I, aL_L, aL_Rf, aR_I, aR_L, aR_Rf]; rw [if_neg (by omega)])), (by first | rfl | (simp only [aI_I, aI_L, aI_Rf, aL_I, aL_L, aL_Rf, aR_I, aR_L, aR_Rf]; rw [if_neg (by omega)])), (by first | rfl | (simp only [aI_I, aI_L, aI_Rf, aL_I, aL_L, aL_Rf, aR_I, aR_L, aR_Rf]; rw [if_neg (by omega)])), (by first | rfl | (simp only [aI_I, aI_L, aI_Rf, aL_I, aL_L, aL_Rf, aR_I, aR_L, aR_Rf]; rw [if_neg (by omega)])), (by first | rfl | (simp only [aI_I, aI_L, aI_Rf, aL_I, aL_L, aL_Rf, aR_I, aR_L, aR_Rf]; rw [if_neg (by omega)])), (by first | rfl | (simp only [aI_I, aI_L, aI_Rf, aL_I, aL_L, aL_Rf, aR_I, aR_L, aR_Rf]; rw [if_neg (by omega)]))⟩) (fun _ => (by first | rfl | (simp only [aI_I, aI_L, aI_Rf, aL_I, aL_L, aL_Rf, aR_I, aR_L, aR_Rf]; rw [if_neg (by omega)]))) (fun _ => (by first | rfl | (simp only [aI_I, aI_L, aI_Rf, aL_I, aL_L, aL_Rf, aR_I, aR_L, aR_Rf]; rw [if_neg (by omega)]))) (fun _ => (by first | rfl | (simp only [aI_I, aI_L, aI_Rf, aL_I, aL_L, aL_Rf, aR_I, aR_L, aR_Rf]; rw [if_neg (by omega)]))) hj) (fun j hj hne => layM_eq (fun _ => (by first | rfl | (simp only [aI_I, aI_L, aI_Rf, aL_I, aL_L, aL_Rf, aR_I, aR_L, aR_Rf]; rw [if_neg (by omega)]))) (fun k h1 h2 h3 => (by have hk : ¬ k = 27 := (fun e9 => hne (congrArg (324 + ·) (mreg_inj j hj 7 (by decide) (by rw [h3]; exact fun z => nomatch z) (by rw [h3, e9]; rfl)))); simp only [aI_I, aI_L, aI_Rf, aL_I, aL_L, aL_Rf, aR_I, aR_L, aR_Rf]; rw [if_neg hk])) (fun k h1 h2 h3 => (by first | rfl | (simp only [aI_I, aI_L, aI_Rf, aL_I, aL_L, aL_Rf, aR_I, aR_L, aR_Rf]; rw [if_neg (by omega)]))) hj) (fun n' _ => layD_eq (fun k h1 h2 => (by first | rfl | (simp only [aI_I, aI_L, aI_Rf, aL_I, aL_L, aL_Rf, aR_I, aR_L, aR_Rf]; rw [if_neg (by omega)]))) (by first | rfl | (simp only [aI_I, aI_L, aI_Rf, aL_I, aL_L, aL_Rf, aR_I, aR_L, aR_Rf]; rw [if_neg (by omega)]))))
  rw [show (331 : Nat) = 324 + 7 from rfl, lay_M (by decide)]; simp [layM, aI_I, aI_L, aI_Rf, aL_I, aL_L, aL_Rf, aR_I, aR_L, aR_Rf]
theorem wσ_m_states {AC : Nat → ClassId} {Γ : Ev} {σ : St} (f : Nat → Int32) : wS (wσ AC Γ σ) 332 (.inl (AC 0, 40, inA f)) = wσ AC Γ (σ.aI 28 f) := by
  refine wσ_set ?_ (fun i hi => lay_eq hi (fun j _ _ => lay0_eq (by first | rfl | (simp only [aI_I, aI_L, aI_Rf, aL_I, aL_L, aL_Rf, aR_I, aR_L, aR_Rf]; rw [if_neg (by omega)])) (by first | rfl | (simp only [aI_I, aI_L, aI_Rf, aL_I, aL_L, aL_Rf, aR_I, aR_L, aR_Rf]; rw [if_neg (by omega)]))) (fun p' j hp' hj hne => layP_eq (fun _ => ⟨(by first | rfl | (simp only [aI_I, aI_L, aI_Rf, aL_I, aL_L, aL_Rf, aR_I, aR_L, aR_Rf]; rw [if_neg (by omega)])), (by first | rfl | (simp only [aI_I, aI_L, aI_Rf, aL_I, aL_L, aL_Rf, aR_I, aR_L, aR_Rf]; rw [if_neg (by omega)])), (by first | rfl | (simp only [aI_I, aI_L, aI_Rf, aL_I, aL_L, aL_Rf, aR_I, aR_L, aR_Rf]; rw [if_neg (by omega)])), (by first | rfl | (simp only [aI_I, aI_L, aI_Rf, aL_I, aL_L, aL_Rf, aR_I, aR_L, aR_Rf]; rw [if_neg (by omega)])), (by first | rfl | (simp only [aI_I, aI_L, aI_Rf, aL_I, aL_L, aL_Rf, aR_I, aR_L, aR_Rf]; rw [if_neg (by omega)])), (by first | rfl | (simp only [aI_I, aI_L, aI_Rf, aL_I, aL_L, aL_Rf, aR_I, aR_L, aR_Rf]; rw [if_neg (by omega)]))⟩) (fun _ => (by first | rfl | (simp only [aI_I, aI_L, aI_Rf, aL_I, aL_L, aL_Rf, aR_I, aR_L, aR_Rf]; rw [if_neg (by omega)]))) (fun _ => (by first | rfl | (simp only [aI_I, aI_L, aI_Rf, aL_I, aL_L, aL_Rf, aR_I, aR_L, aR_Rf]; rw [if_neg (by omega)]))) (fun _ => (by first | rfl | (simp only [aI_I, aI_L, aI_Rf, aL_I, aL_L, aL_Rf, aR_I, aR_L, aR_Rf]; rw [if_neg (by omega)]))) hj) (fun j hj hne => layM_eq (fun _ => (by first | rfl | (simp only [aI_I, aI_L, aI_Rf, aL_I, aL_L, aL_Rf, aR_I, aR_L, aR_Rf]; rw [if_neg (by omega)]))) (fun k h1 h2 h3 => (by have hk : ¬ k = 28 := (fun e9 => hne (congrArg (324 + ·) (mreg_inj j hj 8 (by decide) (by rw [h3]; exact fun z => nomatch z) (by rw [h3, e9]; rfl)))); simp only [aI_I, aI_L, aI_Rf, aL_I, aL_L, aL_Rf, aR_I, aR_L, aR_Rf]; rw [if_neg hk])) (fun k h1 h2 h3 => (by first | rfl | (simp only [aI_I, aI_L, aI_Rf, aL_I, aL_L, aL_Rf, aR_I, aR_L, aR_Rf]; rw [if_neg (by omega)]))) hj) (fun n' _ => layD_eq (fun k h1 h2 => (by first | rfl | (simp only [aI_I, aI_L, aI_Rf, aL_I, aL_L, aL_Rf, aR_I, aR_L, aR_Rf]; rw [if_neg (by omega)]))) (by first | rfl | (simp only [aI_I, aI_L, aI_Rf, aL_I, aL_L, aL_Rf, aR_I, aR_L, aR_Rf]; rw [if_neg (by omega)]))))
  rw [show (332 : Nat) = 324 + 8 from rfl, lay_M (by decide)]; simp [layM, aI_I, aI_L, aI_Rf, aL_I, aL_L, aL_Rf, aR_I, aR_L, aR_Rf]
theorem wσ_m_mlives {AC : Nat → ClassId} {Γ : Ev} {σ : St} (f : Nat → Int32) : wS (wσ AC Γ σ) 333 (.inl (AC 2, 80, inA f)) = wσ AC Γ (σ.aI 29 f) := by
  refine wσ_set ?_ (fun i hi => lay_eq hi (fun j _ _ => lay0_eq (by first | rfl | (simp only [aI_I, aI_L, aI_Rf, aL_I, aL_L, aL_Rf, aR_I, aR_L, aR_Rf]; rw [if_neg (by omega)])) (by first | rfl | (simp only [aI_I, aI_L, aI_Rf, aL_I, aL_L, aL_Rf, aR_I, aR_L, aR_Rf]; rw [if_neg (by omega)]))) (fun p' j hp' hj hne => layP_eq (fun _ => ⟨(by first | rfl | (simp only [aI_I, aI_L, aI_Rf, aL_I, aL_L, aL_Rf, aR_I, aR_L, aR_Rf]; rw [if_neg (by omega)])), (by first | rfl | (simp only [aI_I, aI_L, aI_Rf, aL_I, aL_L, aL_Rf, aR_I, aR_L, aR_Rf]; rw [if_neg (by omega)])), (by first | rfl | (simp only [aI_I, aI_L, aI_Rf, aL_I, aL_L, aL_Rf, aR_I, aR_L, aR_Rf]; rw [if_neg (by omega)])), (by first | rfl | (simp only [aI_I, aI_L, aI_Rf, aL_I, aL_L, aL_Rf, aR_I, aR_L, aR_Rf]; rw [if_neg (by omega)])), (by first | rfl | (simp only [aI_I, aI_L, aI_Rf, aL_I, aL_L, aL_Rf, aR_I, aR_L, aR_Rf]; rw [if_neg (by omega)])), (by first | rfl | (simp only [aI_I, aI_L, aI_Rf, aL_I, aL_L, aL_Rf, aR_I, aR_L, aR_Rf]; rw [if_neg (by omega)]))⟩) (fun _ => (by first | rfl | (simp only [aI_I, aI_L, aI_Rf, aL_I, aL_L, aL_Rf, aR_I, aR_L, aR_Rf]; rw [if_neg (by omega)]))) (fun _ => (by first | rfl | (simp only [aI_I, aI_L, aI_Rf, aL_I, aL_L, aL_Rf, aR_I, aR_L, aR_Rf]; rw [if_neg (by omega)]))) (fun _ => (by first | rfl | (simp only [aI_I, aI_L, aI_Rf, aL_I, aL_L, aL_Rf, aR_I, aR_L, aR_Rf]; rw [if_neg (by omega)]))) hj) (fun j hj hne => layM_eq (fun _ => (by first | rfl | (simp only [aI_I, aI_L, aI_Rf, aL_I, aL_L, aL_Rf, aR_I, aR_L, aR_Rf]; rw [if_neg (by omega)]))) (fun k h1 h2 h3 => (by have hk : ¬ k = 29 := (fun e9 => hne (congrArg (324 + ·) (mreg_inj j hj 9 (by decide) (by rw [h3]; exact fun z => nomatch z) (by rw [h3, e9]; rfl)))); simp only [aI_I, aI_L, aI_Rf, aL_I, aL_L, aL_Rf, aR_I, aR_L, aR_Rf]; rw [if_neg hk])) (fun k h1 h2 h3 => (by first | rfl | (simp only [aI_I, aI_L, aI_Rf, aL_I, aL_L, aL_Rf, aR_I, aR_L, aR_Rf]; rw [if_neg (by omega)]))) hj) (fun n' _ => layD_eq (fun k h1 h2 => (by first | rfl | (simp only [aI_I, aI_L, aI_Rf, aL_I, aL_L, aL_Rf, aR_I, aR_L, aR_Rf]; rw [if_neg (by omega)]))) (by first | rfl | (simp only [aI_I, aI_L, aI_Rf, aL_I, aL_L, aL_Rf, aR_I, aR_L, aR_Rf]; rw [if_neg (by omega)]))))
  rw [show (333 : Nat) = 324 + 9 from rfl, lay_M (by decide)]; simp [layM, aI_I, aI_L, aI_Rf, aL_I, aL_L, aL_Rf, aR_I, aR_L, aR_Rf]
theorem wσ_m_areas {AC : Nat → ClassId} {Γ : Ev} {σ : St} (f : Nat → Int64) : wS (wσ AC Γ σ) 334 (.inl (AC 1, 80, loA6 f)) = wσ AC Γ (σ.aL 3 f) := by
  refine wσ_set ?_ (fun i hi => lay_eq hi (fun j _ _ => lay0_eq (by first | rfl | (simp only [aI_I, aI_L, aI_Rf, aL_I, aL_L, aL_Rf, aR_I, aR_L, aR_Rf]; rw [if_neg (by omega)])) (by first | rfl | (simp only [aI_I, aI_L, aI_Rf, aL_I, aL_L, aL_Rf, aR_I, aR_L, aR_Rf]; rw [if_neg (by omega)]))) (fun p' j hp' hj hne => layP_eq (fun _ => ⟨(by first | rfl | (simp only [aI_I, aI_L, aI_Rf, aL_I, aL_L, aL_Rf, aR_I, aR_L, aR_Rf]; rw [if_neg (by omega)])), (by first | rfl | (simp only [aI_I, aI_L, aI_Rf, aL_I, aL_L, aL_Rf, aR_I, aR_L, aR_Rf]; rw [if_neg (by omega)])), (by first | rfl | (simp only [aI_I, aI_L, aI_Rf, aL_I, aL_L, aL_Rf, aR_I, aR_L, aR_Rf]; rw [if_neg (by omega)])), (by first | rfl | (simp only [aI_I, aI_L, aI_Rf, aL_I, aL_L, aL_Rf, aR_I, aR_L, aR_Rf]; rw [if_neg (by omega)])), (by first | rfl | (simp only [aI_I, aI_L, aI_Rf, aL_I, aL_L, aL_Rf, aR_I, aR_L, aR_Rf]; rw [if_neg (by omega)])), (by first | rfl | (simp only [aI_I, aI_L, aI_Rf, aL_I, aL_L, aL_Rf, aR_I, aR_L, aR_Rf]; rw [if_neg (by omega)]))⟩) (fun _ => (by first | rfl | (simp only [aI_I, aI_L, aI_Rf, aL_I, aL_L, aL_Rf, aR_I, aR_L, aR_Rf]; rw [if_neg (by omega)]))) (fun _ => (by first | rfl | (simp only [aI_I, aI_L, aI_Rf, aL_I, aL_L, aL_Rf, aR_I, aR_L, aR_Rf]; rw [if_neg (by omega)]))) (fun _ => (by first | rfl | (simp only [aI_I, aI_L, aI_Rf, aL_I, aL_L, aL_Rf, aR_I, aR_L, aR_Rf]; rw [if_neg (by omega)]))) hj) (fun j hj hne => layM_eq (fun _ => (by first | rfl | (simp only [aI_I, aI_L, aI_Rf, aL_I, aL_L, aL_Rf, aR_I, aR_L, aR_Rf]; rw [if_neg (by omega)]))) (fun k h1 h2 h3 => (by first | rfl | (simp only [aI_I, aI_L, aI_Rf, aL_I, aL_L, aL_Rf, aR_I, aR_L, aR_Rf]; rw [if_neg (by omega)]))) (fun k h1 h2 h3 => (by have hk : ¬ k = 3 := (fun e9 => hne (congrArg (324 + ·) (mreg_inj j hj 10 (by decide) (by rw [h3]; exact fun z => nomatch z) (by rw [h3, e9]; rfl)))); simp only [aI_I, aI_L, aI_Rf, aL_I, aL_L, aL_Rf, aR_I, aR_L, aR_Rf]; rw [if_neg hk])) hj) (fun n' _ => layD_eq (fun k h1 h2 => (by first | rfl | (simp only [aI_I, aI_L, aI_Rf, aL_I, aL_L, aL_Rf, aR_I, aR_L, aR_Rf]; rw [if_neg (by omega)]))) (by first | rfl | (simp only [aI_I, aI_L, aI_Rf, aL_I, aL_L, aL_Rf, aR_I, aR_L, aR_Rf]; rw [if_neg (by omega)]))))
  rw [show (334 : Nat) = 324 + 10 from rfl, lay_M (by decide)]; simp [layM, aI_I, aI_L, aI_Rf, aL_I, aL_L, aL_Rf, aR_I, aR_L, aR_Rf]
theorem wσ_m_tops {AC : Nat → ClassId} {Γ : Ev} {σ : St} (f : Nat → Int64) : wS (wσ AC Γ σ) 335 (.inl (AC 1, 640, loA6 f)) = wσ AC Γ (σ.aL 4 f) := by
  refine wσ_set ?_ (fun i hi => lay_eq hi (fun j _ _ => lay0_eq (by first | rfl | (simp only [aI_I, aI_L, aI_Rf, aL_I, aL_L, aL_Rf, aR_I, aR_L, aR_Rf]; rw [if_neg (by omega)])) (by first | rfl | (simp only [aI_I, aI_L, aI_Rf, aL_I, aL_L, aL_Rf, aR_I, aR_L, aR_Rf]; rw [if_neg (by omega)]))) (fun p' j hp' hj hne => layP_eq (fun _ => ⟨(by first | rfl | (simp only [aI_I, aI_L, aI_Rf, aL_I, aL_L, aL_Rf, aR_I, aR_L, aR_Rf]; rw [if_neg (by omega)])), (by first | rfl | (simp only [aI_I, aI_L, aI_Rf, aL_I, aL_L, aL_Rf, aR_I, aR_L, aR_Rf]; rw [if_neg (by omega)])), (by first | rfl | (simp only [aI_I, aI_L, aI_Rf, aL_I, aL_L, aL_Rf, aR_I, aR_L, aR_Rf]; rw [if_neg (by omega)])), (by first | rfl | (simp only [aI_I, aI_L, aI_Rf, aL_I, aL_L, aL_Rf, aR_I, aR_L, aR_Rf]; rw [if_neg (by omega)])), (by first | rfl | (simp only [aI_I, aI_L, aI_Rf, aL_I, aL_L, aL_Rf, aR_I, aR_L, aR_Rf]; rw [if_neg (by omega)])), (by first | rfl | (simp only [aI_I, aI_L, aI_Rf, aL_I, aL_L, aL_Rf, aR_I, aR_L, aR_Rf]; rw [if_neg (by omega)]))⟩) (fun _ => (by first | rfl | (simp only [aI_I, aI_L, aI_Rf, aL_I, aL_L, aL_Rf, aR_I, aR_L, aR_Rf]; rw [if_neg (by omega)]))) (fun _ => (by first | rfl | (simp only [aI_I, aI_L, aI_Rf, aL_I, aL_L, aL_Rf, aR_I, aR_L, aR_Rf]; rw [if_neg (by omega)]))) (fun _ => (by first | rfl | (simp only [aI_I, aI_L, aI_Rf, aL_I, aL_L, aL_Rf, aR_I, aR_L, aR_Rf]; rw [if_neg (by omega)]))) hj) (fun j hj hne => layM_eq (fun _ => (by first | rfl | (simp only [aI_I, aI_L, aI_Rf, aL_I, aL_L, aL_Rf, aR_I, aR_L, aR_Rf]; rw [if_neg (by omega)]))) (fun k h1 h2 h3 => (by first | rfl | (simp only [aI_I, aI_L, aI_Rf, aL_I, aL_L, aL_Rf, aR_I, aR_L, aR_Rf]; rw [if_neg (by omega)]))) (fun k h1 h2 h3 => (by have hk : ¬ k = 4 := (fun e9 => hne (congrArg (324 + ·) (mreg_inj j hj 11 (by decide) (by rw [h3]; exact fun z => nomatch z) (by rw [h3, e9]; rfl)))); simp only [aI_I, aI_L, aI_Rf, aL_I, aL_L, aL_Rf, aR_I, aR_L, aR_Rf]; rw [if_neg hk])) hj) (fun n' _ => layD_eq (fun k h1 h2 => (by first | rfl | (simp only [aI_I, aI_L, aI_Rf, aL_I, aL_L, aL_Rf, aR_I, aR_L, aR_Rf]; rw [if_neg (by omega)]))) (by first | rfl | (simp only [aI_I, aI_L, aI_Rf, aL_I, aL_L, aL_Rf, aR_I, aR_L, aR_Rf]; rw [if_neg (by omega)]))))
  rw [show (335 : Nat) = 324 + 11 from rfl, lay_M (by decide)]; simp [layM, aI_I, aI_L, aI_Rf, aL_I, aL_L, aL_Rf, aR_I, aR_L, aR_Rf]
theorem wσ_m_bottoms {AC : Nat → ClassId} {Γ : Ev} {σ : St} (f : Nat → Int64) : wS (wσ AC Γ σ) 336 (.inl (AC 1, 640, loA6 f)) = wσ AC Γ (σ.aL 5 f) := by
  refine wσ_set ?_ (fun i hi => lay_eq hi (fun j _ _ => lay0_eq (by first | rfl | (simp only [aI_I, aI_L, aI_Rf, aL_I, aL_L, aL_Rf, aR_I, aR_L, aR_Rf]; rw [if_neg (by omega)])) (by first | rfl | (simp only [aI_I, aI_L, aI_Rf, aL_I, aL_L, aL_Rf, aR_I, aR_L, aR_Rf]; rw [if_neg (by omega)]))) (fun p' j hp' hj hne => layP_eq (fun _ => ⟨(by first | rfl | (simp only [aI_I, aI_L, aI_Rf, aL_I, aL_L, aL_Rf, aR_I, aR_L, aR_Rf]; rw [if_neg (by omega)])), (by first | rfl | (simp only [aI_I, aI_L, aI_Rf, aL_I, aL_L, aL_Rf, aR_I, aR_L, aR_Rf]; rw [if_neg (by omega)])), (by first | rfl | (simp only [aI_I, aI_L, aI_Rf, aL_I, aL_L, aL_Rf, aR_I, aR_L, aR_Rf]; rw [if_neg (by omega)])), (by first | rfl | (simp only [aI_I, aI_L, aI_Rf, aL_I, aL_L, aL_Rf, aR_I, aR_L, aR_Rf]; rw [if_neg (by omega)])), (by first | rfl | (simp only [aI_I, aI_L, aI_Rf, aL_I, aL_L, aL_Rf, aR_I, aR_L, aR_Rf]; rw [if_neg (by omega)])), (by first | rfl | (simp only [aI_I, aI_L, aI_Rf, aL_I, aL_L, aL_Rf, aR_I, aR_L, aR_Rf]; rw [if_neg (by omega)]))⟩) (fun _ => (by first | rfl | (simp only [aI_I, aI_L, aI_Rf, aL_I, aL_L, aL_Rf, aR_I, aR_L, aR_Rf]; rw [if_neg (by omega)]))) (fun _ => (by first | rfl | (simp only [aI_I, aI_L, aI_Rf, aL_I, aL_L, aL_Rf, aR_I, aR_L, aR_Rf]; rw [if_neg (by omega)]))) (fun _ => (by first | rfl | (simp only [aI_I, aI_L, aI_Rf, aL_I, aL_L, aL_Rf, aR_I, aR_L, aR_Rf]; rw [if_neg (by omega)]))) hj) (fun j hj hne => layM_eq (fun _ => (by first | rfl | (simp only [aI_I, aI_L, aI_Rf, aL_I, aL_L, aL_Rf, aR_I, aR_L, aR_Rf]; rw [if_neg (by omega)]))) (fun k h1 h2 h3 => (by first | rfl | (simp only [aI_I, aI_L, aI_Rf, aL_I, aL_L, aL_Rf, aR_I, aR_L, aR_Rf]; rw [if_neg (by omega)]))) (fun k h1 h2 h3 => (by have hk : ¬ k = 5 := (fun e9 => hne (congrArg (324 + ·) (mreg_inj j hj 12 (by decide) (by rw [h3]; exact fun z => nomatch z) (by rw [h3, e9]; rfl)))); simp only [aI_I, aI_L, aI_Rf, aL_I, aL_L, aL_Rf, aR_I, aR_L, aR_Rf]; rw [if_neg hk])) hj) (fun n' _ => layD_eq (fun k h1 h2 => (by first | rfl | (simp only [aI_I, aI_L, aI_Rf, aL_I, aL_L, aL_Rf, aR_I, aR_L, aR_Rf]; rw [if_neg (by omega)]))) (by first | rfl | (simp only [aI_I, aI_L, aI_Rf, aL_I, aL_L, aL_Rf, aR_I, aR_L, aR_Rf]; rw [if_neg (by omega)]))))
  rw [show (336 : Nat) = 324 + 12 from rfl, lay_M (by decide)]; simp [layM, aI_I, aI_L, aI_Rf, aL_I, aL_L, aL_Rf, aR_I, aR_L, aR_Rf]
theorem wσ_m_many {AC : Nat → ClassId} {Γ : Ev} {σ : St} (f : Nat → Int32) : wS (wσ AC Γ σ) 337 (.inl (AC 0, 80, inA f)) = wσ AC Γ (σ.aI 30 f) := by
  refine wσ_set ?_ (fun i hi => lay_eq hi (fun j _ _ => lay0_eq (by first | rfl | (simp only [aI_I, aI_L, aI_Rf, aL_I, aL_L, aL_Rf, aR_I, aR_L, aR_Rf]; rw [if_neg (by omega)])) (by first | rfl | (simp only [aI_I, aI_L, aI_Rf, aL_I, aL_L, aL_Rf, aR_I, aR_L, aR_Rf]; rw [if_neg (by omega)]))) (fun p' j hp' hj hne => layP_eq (fun _ => ⟨(by first | rfl | (simp only [aI_I, aI_L, aI_Rf, aL_I, aL_L, aL_Rf, aR_I, aR_L, aR_Rf]; rw [if_neg (by omega)])), (by first | rfl | (simp only [aI_I, aI_L, aI_Rf, aL_I, aL_L, aL_Rf, aR_I, aR_L, aR_Rf]; rw [if_neg (by omega)])), (by first | rfl | (simp only [aI_I, aI_L, aI_Rf, aL_I, aL_L, aL_Rf, aR_I, aR_L, aR_Rf]; rw [if_neg (by omega)])), (by first | rfl | (simp only [aI_I, aI_L, aI_Rf, aL_I, aL_L, aL_Rf, aR_I, aR_L, aR_Rf]; rw [if_neg (by omega)])), (by first | rfl | (simp only [aI_I, aI_L, aI_Rf, aL_I, aL_L, aL_Rf, aR_I, aR_L, aR_Rf]; rw [if_neg (by omega)])), (by first | rfl | (simp only [aI_I, aI_L, aI_Rf, aL_I, aL_L, aL_Rf, aR_I, aR_L, aR_Rf]; rw [if_neg (by omega)]))⟩) (fun _ => (by first | rfl | (simp only [aI_I, aI_L, aI_Rf, aL_I, aL_L, aL_Rf, aR_I, aR_L, aR_Rf]; rw [if_neg (by omega)]))) (fun _ => (by first | rfl | (simp only [aI_I, aI_L, aI_Rf, aL_I, aL_L, aL_Rf, aR_I, aR_L, aR_Rf]; rw [if_neg (by omega)]))) (fun _ => (by first | rfl | (simp only [aI_I, aI_L, aI_Rf, aL_I, aL_L, aL_Rf, aR_I, aR_L, aR_Rf]; rw [if_neg (by omega)]))) hj) (fun j hj hne => layM_eq (fun _ => (by first | rfl | (simp only [aI_I, aI_L, aI_Rf, aL_I, aL_L, aL_Rf, aR_I, aR_L, aR_Rf]; rw [if_neg (by omega)]))) (fun k h1 h2 h3 => (by have hk : ¬ k = 30 := (fun e9 => hne (congrArg (324 + ·) (mreg_inj j hj 13 (by decide) (by rw [h3]; exact fun z => nomatch z) (by rw [h3, e9]; rfl)))); simp only [aI_I, aI_L, aI_Rf, aL_I, aL_L, aL_Rf, aR_I, aR_L, aR_Rf]; rw [if_neg hk])) (fun k h1 h2 h3 => (by first | rfl | (simp only [aI_I, aI_L, aI_Rf, aL_I, aL_L, aL_Rf, aR_I, aR_L, aR_Rf]; rw [if_neg (by omega)]))) hj) (fun n' _ => layD_eq (fun k h1 h2 => (by first | rfl | (simp only [aI_I, aI_L, aI_Rf, aL_I, aL_L, aL_Rf, aR_I, aR_L, aR_Rf]; rw [if_neg (by omega)]))) (by first | rfl | (simp only [aI_I, aI_L, aI_Rf, aL_I, aL_L, aL_Rf, aR_I, aR_L, aR_Rf]; rw [if_neg (by omega)]))))
  rw [show (337 : Nat) = 324 + 13 from rfl, lay_M (by decide)]; simp [layM, aI_I, aI_L, aI_Rf, aL_I, aL_L, aL_Rf, aR_I, aR_L, aR_Rf]
theorem wσ_m_mcred {AC : Nat → ClassId} {Γ : Ev} {σ : St} (f : Nat → Int32) : wS (wσ AC Γ σ) 338 (.inl (AC 0, 320, inA f)) = wσ AC Γ (σ.aI 31 f) := by
  refine wσ_set ?_ (fun i hi => lay_eq hi (fun j _ _ => lay0_eq (by first | rfl | (simp only [aI_I, aI_L, aI_Rf, aL_I, aL_L, aL_Rf, aR_I, aR_L, aR_Rf]; rw [if_neg (by omega)])) (by first | rfl | (simp only [aI_I, aI_L, aI_Rf, aL_I, aL_L, aL_Rf, aR_I, aR_L, aR_Rf]; rw [if_neg (by omega)]))) (fun p' j hp' hj hne => layP_eq (fun _ => ⟨(by first | rfl | (simp only [aI_I, aI_L, aI_Rf, aL_I, aL_L, aL_Rf, aR_I, aR_L, aR_Rf]; rw [if_neg (by omega)])), (by first | rfl | (simp only [aI_I, aI_L, aI_Rf, aL_I, aL_L, aL_Rf, aR_I, aR_L, aR_Rf]; rw [if_neg (by omega)])), (by first | rfl | (simp only [aI_I, aI_L, aI_Rf, aL_I, aL_L, aL_Rf, aR_I, aR_L, aR_Rf]; rw [if_neg (by omega)])), (by first | rfl | (simp only [aI_I, aI_L, aI_Rf, aL_I, aL_L, aL_Rf, aR_I, aR_L, aR_Rf]; rw [if_neg (by omega)])), (by first | rfl | (simp only [aI_I, aI_L, aI_Rf, aL_I, aL_L, aL_Rf, aR_I, aR_L, aR_Rf]; rw [if_neg (by omega)])), (by first | rfl | (simp only [aI_I, aI_L, aI_Rf, aL_I, aL_L, aL_Rf, aR_I, aR_L, aR_Rf]; rw [if_neg (by omega)]))⟩) (fun _ => (by first | rfl | (simp only [aI_I, aI_L, aI_Rf, aL_I, aL_L, aL_Rf, aR_I, aR_L, aR_Rf]; rw [if_neg (by omega)]))) (fun _ => (by first | rfl | (simp only [aI_I, aI_L, aI_Rf, aL_I, aL_L, aL_Rf, aR_I, aR_L, aR_Rf]; rw [if_neg (by omega)]))) (fun _ => (by first | rfl | (simp only [aI_I, aI_L, aI_Rf, aL_I, aL_L, aL_Rf, aR_I, aR_L, aR_Rf]; rw [if_neg (by omega)]))) hj) (fun j hj hne => layM_eq (fun _ => (by first | rfl | (simp only [aI_I, aI_L, aI_Rf, aL_I, aL_L, aL_Rf, aR_I, aR_L, aR_Rf]; rw [if_neg (by omega)]))) (fun k h1 h2 h3 => (by have hk : ¬ k = 31 := (fun e9 => hne (congrArg (324 + ·) (mreg_inj j hj 14 (by decide) (by rw [h3]; exact fun z => nomatch z) (by rw [h3, e9]; rfl)))); simp only [aI_I, aI_L, aI_Rf, aL_I, aL_L, aL_Rf, aR_I, aR_L, aR_Rf]; rw [if_neg hk])) (fun k h1 h2 h3 => (by first | rfl | (simp only [aI_I, aI_L, aI_Rf, aL_I, aL_L, aL_Rf, aR_I, aR_L, aR_Rf]; rw [if_neg (by omega)]))) hj) (fun n' _ => layD_eq (fun k h1 h2 => (by first | rfl | (simp only [aI_I, aI_L, aI_Rf, aL_I, aL_L, aL_Rf, aR_I, aR_L, aR_Rf]; rw [if_neg (by omega)]))) (by first | rfl | (simp only [aI_I, aI_L, aI_Rf, aL_I, aL_L, aL_Rf, aR_I, aR_L, aR_Rf]; rw [if_neg (by omega)]))))
  rw [show (338 : Nat) = 324 + 14 from rfl, lay_M (by decide)]; simp [layM, aI_I, aI_L, aI_Rf, aL_I, aL_L, aL_Rf, aR_I, aR_L, aR_Rf]
theorem wσ_m_mamt {AC : Nat → ClassId} {Γ : Ev} {σ : St} (f : Nat → Int32) : wS (wσ AC Γ σ) 339 (.inl (AC 0, 320, inA f)) = wσ AC Γ (σ.aI 32 f) := by
  refine wσ_set ?_ (fun i hi => lay_eq hi (fun j _ _ => lay0_eq (by first | rfl | (simp only [aI_I, aI_L, aI_Rf, aL_I, aL_L, aL_Rf, aR_I, aR_L, aR_Rf]; rw [if_neg (by omega)])) (by first | rfl | (simp only [aI_I, aI_L, aI_Rf, aL_I, aL_L, aL_Rf, aR_I, aR_L, aR_Rf]; rw [if_neg (by omega)]))) (fun p' j hp' hj hne => layP_eq (fun _ => ⟨(by first | rfl | (simp only [aI_I, aI_L, aI_Rf, aL_I, aL_L, aL_Rf, aR_I, aR_L, aR_Rf]; rw [if_neg (by omega)])), (by first | rfl | (simp only [aI_I, aI_L, aI_Rf, aL_I, aL_L, aL_Rf, aR_I, aR_L, aR_Rf]; rw [if_neg (by omega)])), (by first | rfl | (simp only [aI_I, aI_L, aI_Rf, aL_I, aL_L, aL_Rf, aR_I, aR_L, aR_Rf]; rw [if_neg (by omega)])), (by first | rfl | (simp only [aI_I, aI_L, aI_Rf, aL_I, aL_L, aL_Rf, aR_I, aR_L, aR_Rf]; rw [if_neg (by omega)])), (by first | rfl | (simp only [aI_I, aI_L, aI_Rf, aL_I, aL_L, aL_Rf, aR_I, aR_L, aR_Rf]; rw [if_neg (by omega)])), (by first | rfl | (simp only [aI_I, aI_L, aI_Rf, aL_I, aL_L, aL_Rf, aR_I, aR_L, aR_Rf]; rw [if_neg (by omega)]))⟩) (fun _ => (by first | rfl | (simp only [aI_I, aI_L, aI_Rf, aL_I, aL_L, aL_Rf, aR_I, aR_L, aR_Rf]; rw [if_neg (by omega)]))) (fun _ => (by first | rfl | (simp only [aI_I, aI_L, aI_Rf, aL_I, aL_L, aL_Rf, aR_I, aR_L, aR_Rf]; rw [if_neg (by omega)]))) (fun _ => (by first | rfl | (simp only [aI_I, aI_L, aI_Rf, aL_I, aL_L, aL_Rf, aR_I, aR_L, aR_Rf]; rw [if_neg (by omega)]))) hj) (fun j hj hne => layM_eq (fun _ => (by first | rfl | (simp only [aI_I, aI_L, aI_Rf, aL_I, aL_L, aL_Rf, aR_I, aR_L, aR_Rf]; rw [if_neg (by omega)]))) (fun k h1 h2 h3 => (by have hk : ¬ k = 32 := (fun e9 => hne (congrArg (324 + ·) (mreg_inj j hj 15 (by decide) (by rw [h3]; exact fun z => nomatch z) (by rw [h3, e9]; rfl)))); simp only [aI_I, aI_L, aI_Rf, aL_I, aL_L, aL_Rf, aR_I, aR_L, aR_Rf]; rw [if_neg hk])) (fun k h1 h2 h3 => (by first | rfl | (simp only [aI_I, aI_L, aI_Rf, aL_I, aL_L, aL_Rf, aR_I, aR_L, aR_Rf]; rw [if_neg (by omega)]))) hj) (fun n' _ => layD_eq (fun k h1 h2 => (by first | rfl | (simp only [aI_I, aI_L, aI_Rf, aL_I, aL_L, aL_Rf, aR_I, aR_L, aR_Rf]; rw [if_neg (by omega)]))) (by first | rfl | (simp only [aI_I, aI_L, aI_Rf, aL_I, aL_L, aL_Rf, aR_I, aR_L, aR_Rf]; rw [if_neg (by omega)]))))
  rw [show (339 : Nat) = 324 + 15 from rfl, lay_M (by decide)]; simp [layM, aI_I, aI_L, aI_Rf, aL_I, aL_L, aL_Rf, aR_I, aR_L, aR_Rf]
theorem wσ_m_warned {AC : Nat → ClassId} {Γ : Ev} {σ : St} (f : Nat → Int32) : wS (wσ AC Γ σ) 340 (.inl (AC 0, 80, inA f)) = wσ AC Γ (σ.aI 33 f) := by
  refine wσ_set ?_ (fun i hi => lay_eq hi (fun j _ _ => lay0_eq (by first | rfl | (simp only [aI_I, aI_L, aI_Rf, aL_I, aL_L, aL_Rf, aR_I, aR_L, aR_Rf]; rw [if_neg (by omega)])) (by first | rfl | (simp only [aI_I, aI_L, aI_Rf, aL_I, aL_L, aL_Rf, aR_I, aR_L, aR_Rf]; rw [if_neg (by omega)]))) (fun p' j hp' hj hne => layP_eq (fun _ => ⟨(by first | rfl | (simp only [aI_I, aI_L, aI_Rf, aL_I, aL_L, aL_Rf, aR_I, aR_L, aR_Rf]; rw [if_neg (by omega)])), (by first | rfl | (simp only [aI_I, aI_L, aI_Rf, aL_I, aL_L, aL_Rf, aR_I, aR_L, aR_Rf]; rw [if_neg (by omega)])), (by first | rfl | (simp only [aI_I, aI_L, aI_Rf, aL_I, aL_L, aL_Rf, aR_I, aR_L, aR_Rf]; rw [if_neg (by omega)])), (by first | rfl | (simp only [aI_I, aI_L, aI_Rf, aL_I, aL_L, aL_Rf, aR_I, aR_L, aR_Rf]; rw [if_neg (by omega)])), (by first | rfl | (simp only [aI_I, aI_L, aI_Rf, aL_I, aL_L, aL_Rf, aR_I, aR_L, aR_Rf]; rw [if_neg (by omega)])), (by first | rfl | (simp only [aI_I, aI_L, aI_Rf, aL_I, aL_L, aL_Rf, aR_I, aR_L, aR_Rf]; rw [if_neg (by omega)]))⟩) (fun _ => (by first | rfl | (simp only [aI_I, aI_L, aI_Rf, aL_I, aL_L, aL_Rf, aR_I, aR_L, aR_Rf]; rw [if_neg (by omega)]))) (fun _ => (by first | rfl | (simp only [aI_I, aI_L, aI_Rf, aL_I, aL_L, aL_Rf, aR_I, aR_L, aR_Rf]; rw [if_neg (by omega)]))) (fun _ => (by first | rfl | (simp only [aI_I, aI_L, aI_Rf, aL_I, aL_L, aL_Rf, aR_I, aR_L, aR_Rf]; rw [if_neg (by omega)]))) hj) (fun j hj hne => layM_eq (fun _ => (by first | rfl | (simp only [aI_I, aI_L, aI_Rf, aL_I, aL_L, aL_Rf, aR_I, aR_L, aR_Rf]; rw [if_neg (by omega)]))) (fun k h1 h2 h3 => (by have hk : ¬ k = 33 := (fun e9 => hne (congrArg (324 + ·) (mreg_inj j hj 16 (by decide) (by rw [h3]; exact fun z => nomatch z) (by rw [h3, e9]; rfl)))); simp only [aI_I, aI_L, aI_Rf, aL_I, aL_L, aL_Rf, aR_I, aR_L, aR_Rf]; rw [if_neg hk])) (fun k h1 h2 h3 => (by first | rfl | (simp only [aI_I, aI_L, aI_Rf, aL_I, aL_L, aL_Rf, aR_I, aR_L, aR_Rf]; rw [if_neg (by omega)]))) hj) (fun n' _ => layD_eq (fun k h1 h2 => (by first | rfl | (simp only [aI_I, aI_L, aI_Rf, aL_I, aL_L, aL_Rf, aR_I, aR_L, aR_Rf]; rw [if_neg (by omega)]))) (by first | rfl | (simp only [aI_I, aI_L, aI_Rf, aL_I, aL_L, aL_Rf, aR_I, aR_L, aR_Rf]; rw [if_neg (by omega)]))))
  rw [show (340 : Nat) = 324 + 16 from rfl, lay_M (by decide)]; simp [layM, aI_I, aI_L, aI_Rf, aL_I, aL_L, aL_Rf, aR_I, aR_L, aR_Rf]
theorem wσ_m_from {AC : Nat → ClassId} {Γ : Ev} {σ : St} (f : Nat → Int32) : wS (wσ AC Γ σ) 341 (.inl (AC 0, 80, inA f)) = wσ AC Γ (σ.aI 34 f) := by
  refine wσ_set ?_ (fun i hi => lay_eq hi (fun j _ _ => lay0_eq (by first | rfl | (simp only [aI_I, aI_L, aI_Rf, aL_I, aL_L, aL_Rf, aR_I, aR_L, aR_Rf]; rw [if_neg (by omega)])) (by first | rfl | (simp only [aI_I, aI_L, aI_Rf, aL_I, aL_L, aL_Rf, aR_I, aR_L, aR_Rf]; rw [if_neg (by omega)]))) (fun p' j hp' hj hne => layP_eq (fun _ => ⟨(by first | rfl | (simp only [aI_I, aI_L, aI_Rf, aL_I, aL_L, aL_Rf, aR_I, aR_L, aR_Rf]; rw [if_neg (by omega)])), (by first | rfl | (simp only [aI_I, aI_L, aI_Rf, aL_I, aL_L, aL_Rf, aR_I, aR_L, aR_Rf]; rw [if_neg (by omega)])), (by first | rfl | (simp only [aI_I, aI_L, aI_Rf, aL_I, aL_L, aL_Rf, aR_I, aR_L, aR_Rf]; rw [if_neg (by omega)])), (by first | rfl | (simp only [aI_I, aI_L, aI_Rf, aL_I, aL_L, aL_Rf, aR_I, aR_L, aR_Rf]; rw [if_neg (by omega)])), (by first | rfl | (simp only [aI_I, aI_L, aI_Rf, aL_I, aL_L, aL_Rf, aR_I, aR_L, aR_Rf]; rw [if_neg (by omega)])), (by first | rfl | (simp only [aI_I, aI_L, aI_Rf, aL_I, aL_L, aL_Rf, aR_I, aR_L, aR_Rf]; rw [if_neg (by omega)]))⟩) (fun _ => (by first | rfl | (simp only [aI_I, aI_L, aI_Rf, aL_I, aL_L, aL_Rf, aR_I, aR_L, aR_Rf]; rw [if_neg (by omega)]))) (fun _ => (by first | rfl | (simp only [aI_I, aI_L, aI_Rf, aL_I, aL_L, aL_Rf, aR_I, aR_L, aR_Rf]; rw [if_neg (by omega)]))) (fun _ => (by first | rfl | (simp only [aI_I, aI_L, aI_Rf, aL_I, aL_L, aL_Rf, aR_I, aR_L, aR_Rf]; rw [if_neg (by omega)]))) hj) (fun j hj hne => layM_eq (fun _ => (by first | rfl | (simp only [aI_I, aI_L, aI_Rf, aL_I, aL_L, aL_Rf, aR_I, aR_L, aR_Rf]; rw [if_neg (by omega)]))) (fun k h1 h2 h3 => (by have hk : ¬ k = 34 := (fun e9 => hne (congrArg (324 + ·) (mreg_inj j hj 17 (by decide) (by rw [h3]; exact fun z => nomatch z) (by rw [h3, e9]; rfl)))); simp only [aI_I, aI_L, aI_Rf, aL_I, aL_L, aL_Rf, aR_I, aR_L, aR_Rf]; rw [if_neg hk])) (fun k h1 h2 h3 => (by first | rfl | (simp only [aI_I, aI_L, aI_Rf, aL_I, aL_L, aL_Rf, aR_I, aR_L, aR_Rf]; rw [if_neg (by omega)]))) hj) (fun n' _ => layD_eq (fun k h1 h2 => (by first | rfl | (simp only [aI_I, aI_L, aI_Rf, aL_I, aL_L, aL_Rf, aR_I, aR_L, aR_Rf]; rw [if_neg (by omega)]))) (by first | rfl | (simp only [aI_I, aI_L, aI_Rf, aL_I, aL_L, aL_Rf, aR_I, aR_L, aR_Rf]; rw [if_neg (by omega)]))))
  rw [show (341 : Nat) = 324 + 17 from rfl, lay_M (by decide)]; simp [layM, aI_I, aI_L, aI_Rf, aL_I, aL_L, aL_Rf, aR_I, aR_L, aR_Rf]
theorem wσ_m_also {AC : Nat → ClassId} {Γ : Ev} {σ : St} (f : Nat → Int32) : wS (wσ AC Γ σ) 342 (.inl (AC 0, 80, inA f)) = wσ AC Γ (σ.aI 35 f) := by
  refine wσ_set ?_ (fun i hi => lay_eq hi (fun j _ _ => lay0_eq (by first | rfl | (simp only [aI_I, aI_L, aI_Rf, aL_I, aL_L, aL_Rf, aR_I, aR_L, aR_Rf]; rw [if_neg (by omega)])) (by first | rfl | (simp only [aI_I, aI_L, aI_Rf, aL_I, aL_L, aL_Rf, aR_I, aR_L, aR_Rf]; rw [if_neg (by omega)]))) (fun p' j hp' hj hne => layP_eq (fun _ => ⟨(by first | rfl | (simp only [aI_I, aI_L, aI_Rf, aL_I, aL_L, aL_Rf, aR_I, aR_L, aR_Rf]; rw [if_neg (by omega)])), (by first | rfl | (simp only [aI_I, aI_L, aI_Rf, aL_I, aL_L, aL_Rf, aR_I, aR_L, aR_Rf]; rw [if_neg (by omega)])), (by first | rfl | (simp only [aI_I, aI_L, aI_Rf, aL_I, aL_L, aL_Rf, aR_I, aR_L, aR_Rf]; rw [if_neg (by omega)])), (by first | rfl | (simp only [aI_I, aI_L, aI_Rf, aL_I, aL_L, aL_Rf, aR_I, aR_L, aR_Rf]; rw [if_neg (by omega)])), (by first | rfl | (simp only [aI_I, aI_L, aI_Rf, aL_I, aL_L, aL_Rf, aR_I, aR_L, aR_Rf]; rw [if_neg (by omega)])), (by first | rfl | (simp only [aI_I, aI_L, aI_Rf, aL_I, aL_L, aL_Rf, aR_I, aR_L, aR_Rf]; rw [if_neg (by omega)]))⟩) (fun _ => (by first | rfl | (simp only [aI_I, aI_L, aI_Rf, aL_I, aL_L, aL_Rf, aR_I, aR_L, aR_Rf]; rw [if_neg (by omega)]))) (fun _ => (by first | rfl | (simp only [aI_I, aI_L, aI_Rf, aL_I, aL_L, aL_Rf, aR_I, aR_L, aR_Rf]; rw [if_neg (by omega)]))) (fun _ => (by first | rfl | (simp only [aI_I, aI_L, aI_Rf, aL_I, aL_L, aL_Rf, aR_I, aR_L, aR_Rf]; rw [if_neg (by omega)]))) hj) (fun j hj hne => layM_eq (fun _ => (by first | rfl | (simp only [aI_I, aI_L, aI_Rf, aL_I, aL_L, aL_Rf, aR_I, aR_L, aR_Rf]; rw [if_neg (by omega)]))) (fun k h1 h2 h3 => (by have hk : ¬ k = 35 := (fun e9 => hne (congrArg (324 + ·) (mreg_inj j hj 18 (by decide) (by rw [h3]; exact fun z => nomatch z) (by rw [h3, e9]; rfl)))); simp only [aI_I, aI_L, aI_Rf, aL_I, aL_L, aL_Rf, aR_I, aR_L, aR_Rf]; rw [if_neg hk])) (fun k h1 h2 h3 => (by first | rfl | (simp only [aI_I, aI_L, aI_Rf, aL_I, aL_L, aL_Rf, aR_I, aR_L, aR_Rf]; rw [if_neg (by omega)]))) hj) (fun n' _ => layD_eq (fun k h1 h2 => (by first | rfl | (simp only [aI_I, aI_L, aI_Rf, aL_I, aL_L, aL_Rf, aR_I, aR_L, aR_Rf]; rw [if_neg (by omega)]))) (by first | rfl | (simp only [aI_I, aI_L, aI_Rf, aL_I, aL_L, aL_Rf, aR_I, aR_L, aR_Rf]; rw [if_neg (by omega)]))))
  rw [show (342 : Nat) = 324 + 18 from rfl, lay_M (by decide)]; simp [layM, aI_I, aI_L, aI_Rf, aL_I, aL_L, aL_Rf, aR_I, aR_L, aR_Rf]
theorem wσ_m_out {AC : Nat → ClassId} {Γ : Ev} {σ : St} (f : Nat → Int64) : wS (wσ AC Γ σ) 343 (.inl (AC 1, 1, loA6 f)) = wσ AC Γ (σ.aL 6 f) := by
  refine wσ_set ?_ (fun i hi => lay_eq hi (fun j _ _ => lay0_eq (by first | rfl | (simp only [aI_I, aI_L, aI_Rf, aL_I, aL_L, aL_Rf, aR_I, aR_L, aR_Rf]; rw [if_neg (by omega)])) (by first | rfl | (simp only [aI_I, aI_L, aI_Rf, aL_I, aL_L, aL_Rf, aR_I, aR_L, aR_Rf]; rw [if_neg (by omega)]))) (fun p' j hp' hj hne => layP_eq (fun _ => ⟨(by first | rfl | (simp only [aI_I, aI_L, aI_Rf, aL_I, aL_L, aL_Rf, aR_I, aR_L, aR_Rf]; rw [if_neg (by omega)])), (by first | rfl | (simp only [aI_I, aI_L, aI_Rf, aL_I, aL_L, aL_Rf, aR_I, aR_L, aR_Rf]; rw [if_neg (by omega)])), (by first | rfl | (simp only [aI_I, aI_L, aI_Rf, aL_I, aL_L, aL_Rf, aR_I, aR_L, aR_Rf]; rw [if_neg (by omega)])), (by first | rfl | (simp only [aI_I, aI_L, aI_Rf, aL_I, aL_L, aL_Rf, aR_I, aR_L, aR_Rf]; rw [if_neg (by omega)])), (by first | rfl | (simp only [aI_I, aI_L, aI_Rf, aL_I, aL_L, aL_Rf, aR_I, aR_L, aR_Rf]; rw [if_neg (by omega)])), (by first | rfl | (simp only [aI_I, aI_L, aI_Rf, aL_I, aL_L, aL_Rf, aR_I, aR_L, aR_Rf]; rw [if_neg (by omega)]))⟩) (fun _ => (by first | rfl | (simp only [aI_I, aI_L, aI_Rf, aL_I, aL_L, aL_Rf, aR_I, aR_L, aR_Rf]; rw [if_neg (by omega)]))) (fun _ => (by first | rfl | (simp only [aI_I, aI_L, aI_Rf, aL_I, aL_L, aL_Rf, aR_I, aR_L, aR_Rf]; rw [if_neg (by omega)]))) (fun _ => (by first | rfl | (simp only [aI_I, aI_L, aI_Rf, aL_I, aL_L, aL_Rf, aR_I, aR_L, aR_Rf]; rw [if_neg (by omega)]))) hj) (fun j hj hne => layM_eq (fun _ => (by first | rfl | (simp only [aI_I, aI_L, aI_Rf, aL_I, aL_L, aL_Rf, aR_I, aR_L, aR_Rf]; rw [if_neg (by omega)]))) (fun k h1 h2 h3 => (by first | rfl | (simp only [aI_I, aI_L, aI_Rf, aL_I, aL_L, aL_Rf, aR_I, aR_L, aR_Rf]; rw [if_neg (by omega)]))) (fun k h1 h2 h3 => (by have hk : ¬ k = 6 := (fun e9 => hne (congrArg (324 + ·) (mreg_inj j hj 19 (by decide) (by rw [h3]; exact fun z => nomatch z) (by rw [h3, e9]; rfl)))); simp only [aI_I, aI_L, aI_Rf, aL_I, aL_L, aL_Rf, aR_I, aR_L, aR_Rf]; rw [if_neg hk])) hj) (fun n' _ => layD_eq (fun k h1 h2 => (by first | rfl | (simp only [aI_I, aI_L, aI_Rf, aL_I, aL_L, aL_Rf, aR_I, aR_L, aR_Rf]; rw [if_neg (by omega)]))) (by first | rfl | (simp only [aI_I, aI_L, aI_Rf, aL_I, aL_L, aL_Rf, aR_I, aR_L, aR_Rf]; rw [if_neg (by omega)]))))
  rw [show (343 : Nat) = 324 + 19 from rfl, lay_M (by decide)]; simp [layM, aI_I, aI_L, aI_Rf, aL_I, aL_L, aL_Rf, aR_I, aR_L, aR_Rf]
theorem wσ_dnum {AC : Nat → ClassId} {Γ : Ev} {σ : St} {n : Nat} (v : Int32) : wS (wσ AC Γ σ) (344 + n) (.inr (Γ.K n, [.int v, .int (σ.I 7 n), .int (σ.I 8 n), .int (σ.I 9 n)] ++ layX σ n (Γ.K n))) = wσ AC Γ (σ.sI 6 n v) := by
  refine wσ_set ?_ (fun i hi => lay_eq hi (fun j _ _ => lay0_eq (by first | rfl | (simp only [aI_I, aI_L, aI_Rf, aL_I, aL_L, aL_Rf, aR_I, aR_L, aR_Rf]; rw [if_neg (by omega)])) (by first | rfl | (simp only [aI_I, aI_L, aI_Rf, aL_I, aL_L, aL_Rf, aR_I, aR_L, aR_Rf]; rw [if_neg (by omega)]))) (fun p' j hp' hj hne => layP_eq (fun _ => ⟨(by first | rfl | (simp only [aI_I, aI_L, aI_Rf, aL_I, aL_L, aL_Rf, aR_I, aR_L, aR_Rf]; rw [if_neg (by omega)])), (by first | rfl | (simp only [aI_I, aI_L, aI_Rf, aL_I, aL_L, aL_Rf, aR_I, aR_L, aR_Rf]; rw [if_neg (by omega)])), (by first | rfl | (simp only [aI_I, aI_L, aI_Rf, aL_I, aL_L, aL_Rf, aR_I, aR_L, aR_Rf]; rw [if_neg (by omega)])), (by first | rfl | (simp only [aI_I, aI_L, aI_Rf, aL_I, aL_L, aL_Rf, aR_I, aR_L, aR_Rf]; rw [if_neg (by omega)])), (by first | rfl | (simp only [aI_I, aI_L, aI_Rf, aL_I, aL_L, aL_Rf, aR_I, aR_L, aR_Rf]; rw [if_neg (by omega)])), (by first | rfl | (simp only [aI_I, aI_L, aI_Rf, aL_I, aL_L, aL_Rf, aR_I, aR_L, aR_Rf]; rw [if_neg (by omega)]))⟩) (fun _ => (by first | rfl | (simp only [aI_I, aI_L, aI_Rf, aL_I, aL_L, aL_Rf, aR_I, aR_L, aR_Rf]; rw [if_neg (by omega)]))) (fun _ => (by first | rfl | (simp only [aI_I, aI_L, aI_Rf, aL_I, aL_L, aL_Rf, aR_I, aR_L, aR_Rf]; rw [if_neg (by omega)]))) (fun _ => (by first | rfl | (simp only [aI_I, aI_L, aI_Rf, aL_I, aL_L, aL_Rf, aR_I, aR_L, aR_Rf]; rw [if_neg (by omega)]))) hj) (fun j hj _ => layM_eq (fun _ => (by first | rfl | (simp only [aI_I, aI_L, aI_Rf, aL_I, aL_L, aL_Rf, aR_I, aR_L, aR_Rf]; rw [if_neg (by omega)]))) (fun k h1 h2 _ => (by first | rfl | (simp only [aI_I, aI_L, aI_Rf, aL_I, aL_L, aL_Rf, aR_I, aR_L, aR_Rf]; rw [if_neg (by omega)]))) (fun k h1 h2 _ => (by first | rfl | (simp only [aI_I, aI_L, aI_Rf, aL_I, aL_L, aL_Rf, aR_I, aR_L, aR_Rf]; rw [if_neg (by omega)]))) hj) (fun n' hne => layD_eq (fun k h1 h2 => by have hnn : ¬ n' = n := (by omega); simp only [aI_I, aI_L, aI_Rf, aL_I, aL_L, aL_Rf, aR_I, aR_L, aR_Rf]; split <;> simp [upd, hnn, *]) (by first | rfl | (simp only [aI_I, aI_L, aI_Rf, aL_I, aL_L, aL_Rf, aR_I, aR_L, aR_Rf]; rw [if_neg (by omega)]))))
  rw [lay_D]; simp [layD, layX, aI_I, aI_L, aI_Rf, aL_I, aL_L, aL_Rf, aR_I, aR_L, aR_Rf, upd]
theorem wσ_drec {AC : Nat → ClassId} {Γ : Ev} {σ : St} {n : Nat} (v : Int32) : wS (wσ AC Γ σ) (344 + n) (.inr (Γ.K n, [.int (σ.I 6 n), .int v, .int (σ.I 8 n), .int (σ.I 9 n)] ++ layX σ n (Γ.K n))) = wσ AC Γ (σ.sI 7 n v) := by
  refine wσ_set ?_ (fun i hi => lay_eq hi (fun j _ _ => lay0_eq (by first | rfl | (simp only [aI_I, aI_L, aI_Rf, aL_I, aL_L, aL_Rf, aR_I, aR_L, aR_Rf]; rw [if_neg (by omega)])) (by first | rfl | (simp only [aI_I, aI_L, aI_Rf, aL_I, aL_L, aL_Rf, aR_I, aR_L, aR_Rf]; rw [if_neg (by omega)]))) (fun p' j hp' hj hne => layP_eq (fun _ => ⟨(by first | rfl | (simp only [aI_I, aI_L, aI_Rf, aL_I, aL_L, aL_Rf, aR_I, aR_L, aR_Rf]; rw [if_neg (by omega)])), (by first | rfl | (simp only [aI_I, aI_L, aI_Rf, aL_I, aL_L, aL_Rf, aR_I, aR_L, aR_Rf]; rw [if_neg (by omega)])), (by first | rfl | (simp only [aI_I, aI_L, aI_Rf, aL_I, aL_L, aL_Rf, aR_I, aR_L, aR_Rf]; rw [if_neg (by omega)])), (by first | rfl | (simp only [aI_I, aI_L, aI_Rf, aL_I, aL_L, aL_Rf, aR_I, aR_L, aR_Rf]; rw [if_neg (by omega)])), (by first | rfl | (simp only [aI_I, aI_L, aI_Rf, aL_I, aL_L, aL_Rf, aR_I, aR_L, aR_Rf]; rw [if_neg (by omega)])), (by first | rfl | (simp only [aI_I, aI_L, aI_Rf, aL_I, aL_L, aL_Rf, aR_I, aR_L, aR_Rf]; rw [if_neg (by omega)]))⟩) (fun _ => (by first | rfl | (simp only [aI_I, aI_L, aI_Rf, aL_I, aL_L, aL_Rf, aR_I, aR_L, aR_Rf]; rw [if_neg (by omega)]))) (fun _ => (by first | rfl | (simp only [aI_I, aI_L, aI_Rf, aL_I, aL_L, aL_Rf, aR_I, aR_L, aR_Rf]; rw [if_neg (by omega)]))) (fun _ => (by first | rfl | (simp only [aI_I, aI_L, aI_Rf, aL_I, aL_L, aL_Rf, aR_I, aR_L, aR_Rf]; rw [if_neg (by omega)]))) hj) (fun j hj _ => layM_eq (fun _ => (by first | rfl | (simp only [aI_I, aI_L, aI_Rf, aL_I, aL_L, aL_Rf, aR_I, aR_L, aR_Rf]; rw [if_neg (by omega)]))) (fun k h1 h2 _ => (by first | rfl | (simp only [aI_I, aI_L, aI_Rf, aL_I, aL_L, aL_Rf, aR_I, aR_L, aR_Rf]; rw [if_neg (by omega)]))) (fun k h1 h2 _ => (by first | rfl | (simp only [aI_I, aI_L, aI_Rf, aL_I, aL_L, aL_Rf, aR_I, aR_L, aR_Rf]; rw [if_neg (by omega)]))) hj) (fun n' hne => layD_eq (fun k h1 h2 => by have hnn : ¬ n' = n := (by omega); simp only [aI_I, aI_L, aI_Rf, aL_I, aL_L, aL_Rf, aR_I, aR_L, aR_Rf]; split <;> simp [upd, hnn, *]) (by first | rfl | (simp only [aI_I, aI_L, aI_Rf, aL_I, aL_L, aL_Rf, aR_I, aR_L, aR_Rf]; rw [if_neg (by omega)]))))
  rw [lay_D]; simp [layD, layX, aI_I, aI_L, aI_Rf, aL_I, aL_L, aL_Rf, aR_I, aR_L, aR_Rf, upd]
theorem wσ_dfact {AC : Nat → ClassId} {Γ : Ev} {σ : St} {n : Nat} (v : Int32) : wS (wσ AC Γ σ) (344 + n) (.inr (Γ.K n, [.int (σ.I 6 n), .int (σ.I 7 n), .int v, .int (σ.I 9 n)] ++ layX σ n (Γ.K n))) = wσ AC Γ (σ.sI 8 n v) := by
  refine wσ_set ?_ (fun i hi => lay_eq hi (fun j _ _ => lay0_eq (by first | rfl | (simp only [aI_I, aI_L, aI_Rf, aL_I, aL_L, aL_Rf, aR_I, aR_L, aR_Rf]; rw [if_neg (by omega)])) (by first | rfl | (simp only [aI_I, aI_L, aI_Rf, aL_I, aL_L, aL_Rf, aR_I, aR_L, aR_Rf]; rw [if_neg (by omega)]))) (fun p' j hp' hj hne => layP_eq (fun _ => ⟨(by first | rfl | (simp only [aI_I, aI_L, aI_Rf, aL_I, aL_L, aL_Rf, aR_I, aR_L, aR_Rf]; rw [if_neg (by omega)])), (by first | rfl | (simp only [aI_I, aI_L, aI_Rf, aL_I, aL_L, aL_Rf, aR_I, aR_L, aR_Rf]; rw [if_neg (by omega)])), (by first | rfl | (simp only [aI_I, aI_L, aI_Rf, aL_I, aL_L, aL_Rf, aR_I, aR_L, aR_Rf]; rw [if_neg (by omega)])), (by first | rfl | (simp only [aI_I, aI_L, aI_Rf, aL_I, aL_L, aL_Rf, aR_I, aR_L, aR_Rf]; rw [if_neg (by omega)])), (by first | rfl | (simp only [aI_I, aI_L, aI_Rf, aL_I, aL_L, aL_Rf, aR_I, aR_L, aR_Rf]; rw [if_neg (by omega)])), (by first | rfl | (simp only [aI_I, aI_L, aI_Rf, aL_I, aL_L, aL_Rf, aR_I, aR_L, aR_Rf]; rw [if_neg (by omega)]))⟩) (fun _ => (by first | rfl | (simp only [aI_I, aI_L, aI_Rf, aL_I, aL_L, aL_Rf, aR_I, aR_L, aR_Rf]; rw [if_neg (by omega)]))) (fun _ => (by first | rfl | (simp only [aI_I, aI_L, aI_Rf, aL_I, aL_L, aL_Rf, aR_I, aR_L, aR_Rf]; rw [if_neg (by omega)]))) (fun _ => (by first | rfl | (simp only [aI_I, aI_L, aI_Rf, aL_I, aL_L, aL_Rf, aR_I, aR_L, aR_Rf]; rw [if_neg (by omega)]))) hj) (fun j hj _ => layM_eq (fun _ => (by first | rfl | (simp only [aI_I, aI_L, aI_Rf, aL_I, aL_L, aL_Rf, aR_I, aR_L, aR_Rf]; rw [if_neg (by omega)]))) (fun k h1 h2 _ => (by first | rfl | (simp only [aI_I, aI_L, aI_Rf, aL_I, aL_L, aL_Rf, aR_I, aR_L, aR_Rf]; rw [if_neg (by omega)]))) (fun k h1 h2 _ => (by first | rfl | (simp only [aI_I, aI_L, aI_Rf, aL_I, aL_L, aL_Rf, aR_I, aR_L, aR_Rf]; rw [if_neg (by omega)]))) hj) (fun n' hne => layD_eq (fun k h1 h2 => by have hnn : ¬ n' = n := (by omega); simp only [aI_I, aI_L, aI_Rf, aL_I, aL_L, aL_Rf, aR_I, aR_L, aR_Rf]; split <;> simp [upd, hnn, *]) (by first | rfl | (simp only [aI_I, aI_L, aI_Rf, aL_I, aL_L, aL_Rf, aR_I, aR_L, aR_Rf]; rw [if_neg (by omega)]))))
  rw [lay_D]; simp [layD, layX, aI_I, aI_L, aI_Rf, aL_I, aL_L, aL_Rf, aR_I, aR_L, aR_Rf, upd]
theorem wσ_dout {AC : Nat → ClassId} {Γ : Ev} {σ : St} {n : Nat} (v : Int32) : wS (wσ AC Γ σ) (344 + n) (.inr (Γ.K n, [.int (σ.I 6 n), .int (σ.I 7 n), .int (σ.I 8 n), .int v] ++ layX σ n (Γ.K n))) = wσ AC Γ (σ.sI 9 n v) := by
  refine wσ_set ?_ (fun i hi => lay_eq hi (fun j _ _ => lay0_eq (by first | rfl | (simp only [aI_I, aI_L, aI_Rf, aL_I, aL_L, aL_Rf, aR_I, aR_L, aR_Rf]; rw [if_neg (by omega)])) (by first | rfl | (simp only [aI_I, aI_L, aI_Rf, aL_I, aL_L, aL_Rf, aR_I, aR_L, aR_Rf]; rw [if_neg (by omega)]))) (fun p' j hp' hj hne => layP_eq (fun _ => ⟨(by first | rfl | (simp only [aI_I, aI_L, aI_Rf, aL_I, aL_L, aL_Rf, aR_I, aR_L, aR_Rf]; rw [if_neg (by omega)])), (by first | rfl | (simp only [aI_I, aI_L, aI_Rf, aL_I, aL_L, aL_Rf, aR_I, aR_L, aR_Rf]; rw [if_neg (by omega)])), (by first | rfl | (simp only [aI_I, aI_L, aI_Rf, aL_I, aL_L, aL_Rf, aR_I, aR_L, aR_Rf]; rw [if_neg (by omega)])), (by first | rfl | (simp only [aI_I, aI_L, aI_Rf, aL_I, aL_L, aL_Rf, aR_I, aR_L, aR_Rf]; rw [if_neg (by omega)])), (by first | rfl | (simp only [aI_I, aI_L, aI_Rf, aL_I, aL_L, aL_Rf, aR_I, aR_L, aR_Rf]; rw [if_neg (by omega)])), (by first | rfl | (simp only [aI_I, aI_L, aI_Rf, aL_I, aL_L, aL_Rf, aR_I, aR_L, aR_Rf]; rw [if_neg (by omega)]))⟩) (fun _ => (by first | rfl | (simp only [aI_I, aI_L, aI_Rf, aL_I, aL_L, aL_Rf, aR_I, aR_L, aR_Rf]; rw [if_neg (by omega)]))) (fun _ => (by first | rfl | (simp only [aI_I, aI_L, aI_Rf, aL_I, aL_L, aL_Rf, aR_I, aR_L, aR_Rf]; rw [if_neg (by omega)]))) (fun _ => (by first | rfl | (simp only [aI_I, aI_L, aI_Rf, aL_I, aL_L, aL_Rf, aR_I, aR_L, aR_Rf]; rw [if_neg (by omega)]))) hj) (fun j hj _ => layM_eq (fun _ => (by first | rfl | (simp only [aI_I, aI_L, aI_Rf, aL_I, aL_L, aL_Rf, aR_I, aR_L, aR_Rf]; rw [if_neg (by omega)]))) (fun k h1 h2 _ => (by first | rfl | (simp only [aI_I, aI_L, aI_Rf, aL_I, aL_L, aL_Rf, aR_I, aR_L, aR_Rf]; rw [if_neg (by omega)]))) (fun k h1 h2 _ => (by first | rfl | (simp only [aI_I, aI_L, aI_Rf, aL_I, aL_L, aL_Rf, aR_I, aR_L, aR_Rf]; rw [if_neg (by omega)]))) hj) (fun n' hne => layD_eq (fun k h1 h2 => by have hnn : ¬ n' = n := (by omega); simp only [aI_I, aI_L, aI_Rf, aL_I, aL_L, aL_Rf, aR_I, aR_L, aR_Rf]; split <;> simp [upd, hnn, *]) (by first | rfl | (simp only [aI_I, aI_L, aI_Rf, aL_I, aL_L, aL_Rf, aR_I, aR_L, aR_Rf]; rw [if_neg (by omega)]))))
  rw [lay_D]; simp [layD, layX, aI_I, aI_L, aI_Rf, aL_I, aL_L, aL_Rf, aR_I, aR_L, aR_Rf, upd]
theorem lay_D2 {AC : Nat → ClassId} {Γ : Ev} {σ : St} {n : Nat} (hK : Γ.K n = 2) : lay AC Γ σ (344 + n) = .inr (2, [.int (σ.I 6 n), .int (σ.I 7 n), .int (σ.I 8 n), .int (σ.I 9 n), .int (σ.I 10 n), .int (σ.I 11 n)]) := by
  rw [lay_D]; simp [layD, layX, hK]
theorem wσ_dnum2 {AC : Nat → ClassId} {Γ : Ev} {σ : St} {n : Nat} (hK : Γ.K n = 2) (v : Int32) : wS (wσ AC Γ σ) (344 + n) (.inr (2, [.int v, .int (σ.I 7 n), .int (σ.I 8 n), .int (σ.I 9 n), .int (σ.I 10 n), .int (σ.I 11 n)])) = wσ AC Γ (σ.sI 6 n v) := by
  refine wσ_set ?_ (fun i hi => lay_eq hi (fun j _ _ => lay0_eq (by first | rfl | (simp only [aI_I, aI_L, aI_Rf, aL_I, aL_L, aL_Rf, aR_I, aR_L, aR_Rf]; rw [if_neg (by omega)])) (by first | rfl | (simp only [aI_I, aI_L, aI_Rf, aL_I, aL_L, aL_Rf, aR_I, aR_L, aR_Rf]; rw [if_neg (by omega)]))) (fun p' j hp' hj hne => layP_eq (fun _ => ⟨(by first | rfl | (simp only [aI_I, aI_L, aI_Rf, aL_I, aL_L, aL_Rf, aR_I, aR_L, aR_Rf]; rw [if_neg (by omega)])), (by first | rfl | (simp only [aI_I, aI_L, aI_Rf, aL_I, aL_L, aL_Rf, aR_I, aR_L, aR_Rf]; rw [if_neg (by omega)])), (by first | rfl | (simp only [aI_I, aI_L, aI_Rf, aL_I, aL_L, aL_Rf, aR_I, aR_L, aR_Rf]; rw [if_neg (by omega)])), (by first | rfl | (simp only [aI_I, aI_L, aI_Rf, aL_I, aL_L, aL_Rf, aR_I, aR_L, aR_Rf]; rw [if_neg (by omega)])), (by first | rfl | (simp only [aI_I, aI_L, aI_Rf, aL_I, aL_L, aL_Rf, aR_I, aR_L, aR_Rf]; rw [if_neg (by omega)])), (by first | rfl | (simp only [aI_I, aI_L, aI_Rf, aL_I, aL_L, aL_Rf, aR_I, aR_L, aR_Rf]; rw [if_neg (by omega)]))⟩) (fun _ => (by first | rfl | (simp only [aI_I, aI_L, aI_Rf, aL_I, aL_L, aL_Rf, aR_I, aR_L, aR_Rf]; rw [if_neg (by omega)]))) (fun _ => (by first | rfl | (simp only [aI_I, aI_L, aI_Rf, aL_I, aL_L, aL_Rf, aR_I, aR_L, aR_Rf]; rw [if_neg (by omega)]))) (fun _ => (by first | rfl | (simp only [aI_I, aI_L, aI_Rf, aL_I, aL_L, aL_Rf, aR_I, aR_L, aR_Rf]; rw [if_neg (by omega)]))) hj) (fun j hj _ => layM_eq (fun _ => (by first | rfl | (simp only [aI_I, aI_L, aI_Rf, aL_I, aL_L, aL_Rf, aR_I, aR_L, aR_Rf]; rw [if_neg (by omega)]))) (fun k h1 h2 _ => (by first | rfl | (simp only [aI_I, aI_L, aI_Rf, aL_I, aL_L, aL_Rf, aR_I, aR_L, aR_Rf]; rw [if_neg (by omega)]))) (fun k h1 h2 _ => (by first | rfl | (simp only [aI_I, aI_L, aI_Rf, aL_I, aL_L, aL_Rf, aR_I, aR_L, aR_Rf]; rw [if_neg (by omega)]))) hj) (fun n' hne => layD_eq (fun k h1 h2 => by have hnn : ¬ n' = n := (by omega); simp only [aI_I, aI_L, aI_Rf, aL_I, aL_L, aL_Rf, aR_I, aR_L, aR_Rf]; split <;> simp [upd, hnn, *]) (by first | rfl | (simp only [aI_I, aI_L, aI_Rf, aL_I, aL_L, aL_Rf, aR_I, aR_L, aR_Rf]; rw [if_neg (by omega)]))))
  rw [lay_D]; simp [layD, layX, aI_I, aI_L, aI_Rf, aL_I, aL_L, aL_Rf, aR_I, aR_L, aR_Rf, upd, hK]
theorem wσ_drec2 {AC : Nat → ClassId} {Γ : Ev} {σ : St} {n : Nat} (hK : Γ.K n = 2) (v : Int32) : wS (wσ AC Γ σ) (344 + n) (.inr (2, [.int (σ.I 6 n), .int v, .int (σ.I 8 n), .int (σ.I 9 n), .int (σ.I 10 n), .int (σ.I 11 n)])) = wσ AC Γ (σ.sI 7 n v) := by
  refine wσ_set ?_ (fun i hi => lay_eq hi (fun j _ _ => lay0_eq (by first | rfl | (simp only [aI_I, aI_L, aI_Rf, aL_I, aL_L, aL_Rf, aR_I, aR_L, aR_Rf]; rw [if_neg (by omega)])) (by first | rfl | (simp only [aI_I, aI_L, aI_Rf, aL_I, aL_L, aL_Rf, aR_I, aR_L, aR_Rf]; rw [if_neg (by omega)]))) (fun p' j hp' hj hne => layP_eq (fun _ => ⟨(by first | rfl | (simp only [aI_I, aI_L, aI_Rf, aL_I, aL_L, aL_Rf, aR_I, aR_L, aR_Rf]; rw [if_neg (by omega)])), (by first | rfl | (simp only [aI_I, aI_L, aI_Rf, aL_I, aL_L, aL_Rf, aR_I, aR_L, aR_Rf]; rw [if_neg (by omega)])), (by first | rfl | (simp only [aI_I, aI_L, aI_Rf, aL_I, aL_L, aL_Rf, aR_I, aR_L, aR_Rf]; rw [if_neg (by omega)])), (by first | rfl | (simp only [aI_I, aI_L, aI_Rf, aL_I, aL_L, aL_Rf, aR_I, aR_L, aR_Rf]; rw [if_neg (by omega)])), (by first | rfl | (simp only [aI_I, aI_L, aI_Rf, aL_I, aL_L, aL_Rf, aR_I, aR_L, aR_Rf]; rw [if_neg (by omega)])), (by first | rfl | (simp only [aI_I, aI_L, aI_Rf, aL_I, aL_L, aL_Rf, aR_I, aR_L, aR_Rf]; rw [if_neg (by omega)]))⟩) (fun _ => (by first | rfl | (simp only [aI_I, aI_L, aI_Rf, aL_I, aL_L, aL_Rf, aR_I, aR_L, aR_Rf]; rw [if_neg (by omega)]))) (fun _ => (by first | rfl | (simp only [aI_I, aI_L, aI_Rf, aL_I, aL_L, aL_Rf, aR_I, aR_L, aR_Rf]; rw [if_neg (by omega)]))) (fun _ => (by first | rfl | (simp only [aI_I, aI_L, aI_Rf, aL_I, aL_L, aL_Rf, aR_I, aR_L, aR_Rf]; rw [if_neg (by omega)]))) hj) (fun j hj _ => layM_eq (fun _ => (by first | rfl | (simp only [aI_I, aI_L, aI_Rf, aL_I, aL_L, aL_Rf, aR_I, aR_L, aR_Rf]; rw [if_neg (by omega)]))) (fun k h1 h2 _ => (by first | rfl | (simp only [aI_I, aI_L, aI_Rf, aL_I, aL_L, aL_Rf, aR_I, aR_L, aR_Rf]; rw [if_neg (by omega)]))) (fun k h1 h2 _ => (by first | rfl | (simp only [aI_I, aI_L, aI_Rf, aL_I, aL_L, aL_Rf, aR_I, aR_L, aR_Rf]; rw [if_neg (by omega)]))) hj) (fun n' hne => layD_eq (fun k h1 h2 => by have hnn : ¬ n' = n := (by omega); simp only [aI_I, aI_L, aI_Rf, aL_I, aL_L, aL_Rf, aR_I, aR_L, aR_Rf]; split <;> simp [upd, hnn, *]) (by first | rfl | (simp only [aI_I, aI_L, aI_Rf, aL_I, aL_L, aL_Rf, aR_I, aR_L, aR_Rf]; rw [if_neg (by omega)]))))
  rw [lay_D]; simp [layD, layX, aI_I, aI_L, aI_Rf, aL_I, aL_L, aL_Rf, aR_I, aR_L, aR_Rf, upd, hK]
theorem wσ_dfact2 {AC : Nat → ClassId} {Γ : Ev} {σ : St} {n : Nat} (hK : Γ.K n = 2) (v : Int32) : wS (wσ AC Γ σ) (344 + n) (.inr (2, [.int (σ.I 6 n), .int (σ.I 7 n), .int v, .int (σ.I 9 n), .int (σ.I 10 n), .int (σ.I 11 n)])) = wσ AC Γ (σ.sI 8 n v) := by
  refine wσ_set ?_ (fun i hi => lay_eq hi (fun j _ _ => lay0_eq (by first | rfl | (simp only [aI_I, aI_L, aI_Rf, aL_I, aL_L, aL_Rf, aR_I, aR_L, aR_Rf]; rw [if_neg (by omega)])) (by first | rfl | (simp only [aI_I, aI_L, aI_Rf, aL_I, aL_L, aL_Rf, aR_I, aR_L, aR_Rf]; rw [if_neg (by omega)]))) (fun p' j hp' hj hne => layP_eq (fun _ => ⟨(by first | rfl | (simp only [aI_I, aI_L, aI_Rf, aL_I, aL_L, aL_Rf, aR_I, aR_L, aR_Rf]; rw [if_neg (by omega)])), (by first | rfl | (simp only [aI_I, aI_L, aI_Rf, aL_I, aL_L, aL_Rf, aR_I, aR_L, aR_Rf]; rw [if_neg (by omega)])), (by first | rfl | (simp only [aI_I, aI_L, aI_Rf, aL_I, aL_L, aL_Rf, aR_I, aR_L, aR_Rf]; rw [if_neg (by omega)])), (by first | rfl | (simp only [aI_I, aI_L, aI_Rf, aL_I, aL_L, aL_Rf, aR_I, aR_L, aR_Rf]; rw [if_neg (by omega)])), (by first | rfl | (simp only [aI_I, aI_L, aI_Rf, aL_I, aL_L, aL_Rf, aR_I, aR_L, aR_Rf]; rw [if_neg (by omega)])), (by first | rfl | (simp only [aI_I, aI_L, aI_Rf, aL_I, aL_L, aL_Rf, aR_I, aR_L, aR_Rf]; rw [if_neg (by omega)]))⟩) (fun _ => (by first | rfl | (simp only [aI_I, aI_L, aI_Rf, aL_I, aL_L, aL_Rf, aR_I, aR_L, aR_Rf]; rw [if_neg (by omega)]))) (fun _ => (by first | rfl | (simp only [aI_I, aI_L, aI_Rf, aL_I, aL_L, aL_Rf, aR_I, aR_L, aR_Rf]; rw [if_neg (by omega)]))) (fun _ => (by first | rfl | (simp only [aI_I, aI_L, aI_Rf, aL_I, aL_L, aL_Rf, aR_I, aR_L, aR_Rf]; rw [if_neg (by omega)]))) hj) (fun j hj _ => layM_eq (fun _ => (by first | rfl | (simp only [aI_I, aI_L, aI_Rf, aL_I, aL_L, aL_Rf, aR_I, aR_L, aR_Rf]; rw [if_neg (by omega)]))) (fun k h1 h2 _ => (by first | rfl | (simp only [aI_I, aI_L, aI_Rf, aL_I, aL_L, aL_Rf, aR_I, aR_L, aR_Rf]; rw [if_neg (by omega)]))) (fun k h1 h2 _ => (by first | rfl | (simp only [aI_I, aI_L, aI_Rf, aL_I, aL_L, aL_Rf, aR_I, aR_L, aR_Rf]; rw [if_neg (by omega)]))) hj) (fun n' hne => layD_eq (fun k h1 h2 => by have hnn : ¬ n' = n := (by omega); simp only [aI_I, aI_L, aI_Rf, aL_I, aL_L, aL_Rf, aR_I, aR_L, aR_Rf]; split <;> simp [upd, hnn, *]) (by first | rfl | (simp only [aI_I, aI_L, aI_Rf, aL_I, aL_L, aL_Rf, aR_I, aR_L, aR_Rf]; rw [if_neg (by omega)]))))
  rw [lay_D]; simp [layD, layX, aI_I, aI_L, aI_Rf, aL_I, aL_L, aL_Rf, aR_I, aR_L, aR_Rf, upd, hK]
theorem wσ_dout2 {AC : Nat → ClassId} {Γ : Ev} {σ : St} {n : Nat} (hK : Γ.K n = 2) (v : Int32) : wS (wσ AC Γ σ) (344 + n) (.inr (2, [.int (σ.I 6 n), .int (σ.I 7 n), .int (σ.I 8 n), .int v, .int (σ.I 10 n), .int (σ.I 11 n)])) = wσ AC Γ (σ.sI 9 n v) := by
  refine wσ_set ?_ (fun i hi => lay_eq hi (fun j _ _ => lay0_eq (by first | rfl | (simp only [aI_I, aI_L, aI_Rf, aL_I, aL_L, aL_Rf, aR_I, aR_L, aR_Rf]; rw [if_neg (by omega)])) (by first | rfl | (simp only [aI_I, aI_L, aI_Rf, aL_I, aL_L, aL_Rf, aR_I, aR_L, aR_Rf]; rw [if_neg (by omega)]))) (fun p' j hp' hj hne => layP_eq (fun _ => ⟨(by first | rfl | (simp only [aI_I, aI_L, aI_Rf, aL_I, aL_L, aL_Rf, aR_I, aR_L, aR_Rf]; rw [if_neg (by omega)])), (by first | rfl | (simp only [aI_I, aI_L, aI_Rf, aL_I, aL_L, aL_Rf, aR_I, aR_L, aR_Rf]; rw [if_neg (by omega)])), (by first | rfl | (simp only [aI_I, aI_L, aI_Rf, aL_I, aL_L, aL_Rf, aR_I, aR_L, aR_Rf]; rw [if_neg (by omega)])), (by first | rfl | (simp only [aI_I, aI_L, aI_Rf, aL_I, aL_L, aL_Rf, aR_I, aR_L, aR_Rf]; rw [if_neg (by omega)])), (by first | rfl | (simp only [aI_I, aI_L, aI_Rf, aL_I, aL_L, aL_Rf, aR_I, aR_L, aR_Rf]; rw [if_neg (by omega)])), (by first | rfl | (simp only [aI_I, aI_L, aI_Rf, aL_I, aL_L, aL_Rf, aR_I, aR_L, aR_Rf]; rw [if_neg (by omega)]))⟩) (fun _ => (by first | rfl | (simp only [aI_I, aI_L, aI_Rf, aL_I, aL_L, aL_Rf, aR_I, aR_L, aR_Rf]; rw [if_neg (by omega)]))) (fun _ => (by first | rfl | (simp only [aI_I, aI_L, aI_Rf, aL_I, aL_L, aL_Rf, aR_I, aR_L, aR_Rf]; rw [if_neg (by omega)]))) (fun _ => (by first | rfl | (simp only [aI_I, aI_L, aI_Rf, aL_I, aL_L, aL_Rf, aR_I, aR_L, aR_Rf]; rw [if_neg (by omega)]))) hj) (fun j hj _ => layM_eq (fun _ => (by first | rfl | (simp only [aI_I, aI_L, aI_Rf, aL_I, aL_L, aL_Rf, aR_I, aR_L, aR_Rf]; rw [if_neg (by omega)]))) (fun k h1 h2 _ => (by first | rfl | (simp only [aI_I, aI_L, aI_Rf, aL_I, aL_L, aL_Rf, aR_I, aR_L, aR_Rf]; rw [if_neg (by omega)]))) (fun k h1 h2 _ => (by first | rfl | (simp only [aI_I, aI_L, aI_Rf, aL_I, aL_L, aL_Rf, aR_I, aR_L, aR_Rf]; rw [if_neg (by omega)]))) hj) (fun n' hne => layD_eq (fun k h1 h2 => by have hnn : ¬ n' = n := (by omega); simp only [aI_I, aI_L, aI_Rf, aL_I, aL_L, aL_Rf, aR_I, aR_L, aR_Rf]; split <;> simp [upd, hnn, *]) (by first | rfl | (simp only [aI_I, aI_L, aI_Rf, aL_I, aL_L, aL_Rf, aR_I, aR_L, aR_Rf]; rw [if_neg (by omega)]))))
  rw [lay_D]; simp [layD, layX, aI_I, aI_L, aI_Rf, aL_I, aL_L, aL_Rf, aR_I, aR_L, aR_Rf, upd, hK]
theorem wσ_dx2_0 {AC : Nat → ClassId} {Γ : Ev} {σ : St} {n : Nat} (hK : Γ.K n = 2) (v : Int32) : wS (wσ AC Γ σ) (344 + n) (.inr (2, [.int (σ.I 6 n), .int (σ.I 7 n), .int (σ.I 8 n), .int (σ.I 9 n), .int v, .int (σ.I 11 n)])) = wσ AC Γ (σ.sI 10 n v) := by
  refine wσ_set ?_ (fun i hi => lay_eq hi (fun j _ _ => lay0_eq (by first | rfl | (simp only [aI_I, aI_L, aI_Rf, aL_I, aL_L, aL_Rf, aR_I, aR_L, aR_Rf]; rw [if_neg (by omega)])) (by first | rfl | (simp only [aI_I, aI_L, aI_Rf, aL_I, aL_L, aL_Rf, aR_I, aR_L, aR_Rf]; rw [if_neg (by omega)]))) (fun p' j hp' hj hne => layP_eq (fun _ => ⟨(by first | rfl | (simp only [aI_I, aI_L, aI_Rf, aL_I, aL_L, aL_Rf, aR_I, aR_L, aR_Rf]; rw [if_neg (by omega)])), (by first | rfl | (simp only [aI_I, aI_L, aI_Rf, aL_I, aL_L, aL_Rf, aR_I, aR_L, aR_Rf]; rw [if_neg (by omega)])), (by first | rfl | (simp only [aI_I, aI_L, aI_Rf, aL_I, aL_L, aL_Rf, aR_I, aR_L, aR_Rf]; rw [if_neg (by omega)])), (by first | rfl | (simp only [aI_I, aI_L, aI_Rf, aL_I, aL_L, aL_Rf, aR_I, aR_L, aR_Rf]; rw [if_neg (by omega)])), (by first | rfl | (simp only [aI_I, aI_L, aI_Rf, aL_I, aL_L, aL_Rf, aR_I, aR_L, aR_Rf]; rw [if_neg (by omega)])), (by first | rfl | (simp only [aI_I, aI_L, aI_Rf, aL_I, aL_L, aL_Rf, aR_I, aR_L, aR_Rf]; rw [if_neg (by omega)]))⟩) (fun _ => (by first | rfl | (simp only [aI_I, aI_L, aI_Rf, aL_I, aL_L, aL_Rf, aR_I, aR_L, aR_Rf]; rw [if_neg (by omega)]))) (fun _ => (by first | rfl | (simp only [aI_I, aI_L, aI_Rf, aL_I, aL_L, aL_Rf, aR_I, aR_L, aR_Rf]; rw [if_neg (by omega)]))) (fun _ => (by first | rfl | (simp only [aI_I, aI_L, aI_Rf, aL_I, aL_L, aL_Rf, aR_I, aR_L, aR_Rf]; rw [if_neg (by omega)]))) hj) (fun j hj _ => layM_eq (fun _ => (by first | rfl | (simp only [aI_I, aI_L, aI_Rf, aL_I, aL_L, aL_Rf, aR_I, aR_L, aR_Rf]; rw [if_neg (by omega)]))) (fun k h1 h2 _ => (by first | rfl | (simp only [aI_I, aI_L, aI_Rf, aL_I, aL_L, aL_Rf, aR_I, aR_L, aR_Rf]; rw [if_neg (by omega)]))) (fun k h1 h2 _ => (by first | rfl | (simp only [aI_I, aI_L, aI_Rf, aL_I, aL_L, aL_Rf, aR_I, aR_L, aR_Rf]; rw [if_neg (by omega)]))) hj) (fun n' hne => layD_eq (fun k h1 h2 => by have hnn : ¬ n' = n := (by omega); simp only [aI_I, aI_L, aI_Rf, aL_I, aL_L, aL_Rf, aR_I, aR_L, aR_Rf]; split <;> simp [upd, hnn, *]) (by first | rfl | (simp only [aI_I, aI_L, aI_Rf, aL_I, aL_L, aL_Rf, aR_I, aR_L, aR_Rf]; rw [if_neg (by omega)]))))
  rw [lay_D]; simp [layD, layX, aI_I, aI_L, aI_Rf, aL_I, aL_L, aL_Rf, aR_I, aR_L, aR_Rf, upd, hK]
theorem wσ_dx2_1 {AC : Nat → ClassId} {Γ : Ev} {σ : St} {n : Nat} (hK : Γ.K n = 2) (v : Int32) : wS (wσ AC Γ σ) (344 + n) (.inr (2, [.int (σ.I 6 n), .int (σ.I 7 n), .int (σ.I 8 n), .int (σ.I 9 n), .int (σ.I 10 n), .int v])) = wσ AC Γ (σ.sI 11 n v) := by
  refine wσ_set ?_ (fun i hi => lay_eq hi (fun j _ _ => lay0_eq (by first | rfl | (simp only [aI_I, aI_L, aI_Rf, aL_I, aL_L, aL_Rf, aR_I, aR_L, aR_Rf]; rw [if_neg (by omega)])) (by first | rfl | (simp only [aI_I, aI_L, aI_Rf, aL_I, aL_L, aL_Rf, aR_I, aR_L, aR_Rf]; rw [if_neg (by omega)]))) (fun p' j hp' hj hne => layP_eq (fun _ => ⟨(by first | rfl | (simp only [aI_I, aI_L, aI_Rf, aL_I, aL_L, aL_Rf, aR_I, aR_L, aR_Rf]; rw [if_neg (by omega)])), (by first | rfl | (simp only [aI_I, aI_L, aI_Rf, aL_I, aL_L, aL_Rf, aR_I, aR_L, aR_Rf]; rw [if_neg (by omega)])), (by first | rfl | (simp only [aI_I, aI_L, aI_Rf, aL_I, aL_L, aL_Rf, aR_I, aR_L, aR_Rf]; rw [if_neg (by omega)])), (by first | rfl | (simp only [aI_I, aI_L, aI_Rf, aL_I, aL_L, aL_Rf, aR_I, aR_L, aR_Rf]; rw [if_neg (by omega)])), (by first | rfl | (simp only [aI_I, aI_L, aI_Rf, aL_I, aL_L, aL_Rf, aR_I, aR_L, aR_Rf]; rw [if_neg (by omega)])), (by first | rfl | (simp only [aI_I, aI_L, aI_Rf, aL_I, aL_L, aL_Rf, aR_I, aR_L, aR_Rf]; rw [if_neg (by omega)]))⟩) (fun _ => (by first | rfl | (simp only [aI_I, aI_L, aI_Rf, aL_I, aL_L, aL_Rf, aR_I, aR_L, aR_Rf]; rw [if_neg (by omega)]))) (fun _ => (by first | rfl | (simp only [aI_I, aI_L, aI_Rf, aL_I, aL_L, aL_Rf, aR_I, aR_L, aR_Rf]; rw [if_neg (by omega)]))) (fun _ => (by first | rfl | (simp only [aI_I, aI_L, aI_Rf, aL_I, aL_L, aL_Rf, aR_I, aR_L, aR_Rf]; rw [if_neg (by omega)]))) hj) (fun j hj _ => layM_eq (fun _ => (by first | rfl | (simp only [aI_I, aI_L, aI_Rf, aL_I, aL_L, aL_Rf, aR_I, aR_L, aR_Rf]; rw [if_neg (by omega)]))) (fun k h1 h2 _ => (by first | rfl | (simp only [aI_I, aI_L, aI_Rf, aL_I, aL_L, aL_Rf, aR_I, aR_L, aR_Rf]; rw [if_neg (by omega)]))) (fun k h1 h2 _ => (by first | rfl | (simp only [aI_I, aI_L, aI_Rf, aL_I, aL_L, aL_Rf, aR_I, aR_L, aR_Rf]; rw [if_neg (by omega)]))) hj) (fun n' hne => layD_eq (fun k h1 h2 => by have hnn : ¬ n' = n := (by omega); simp only [aI_I, aI_L, aI_Rf, aL_I, aL_L, aL_Rf, aR_I, aR_L, aR_Rf]; split <;> simp [upd, hnn, *]) (by first | rfl | (simp only [aI_I, aI_L, aI_Rf, aL_I, aL_L, aL_Rf, aR_I, aR_L, aR_Rf]; rw [if_neg (by omega)]))))
  rw [lay_D]; simp [layD, layX, aI_I, aI_L, aI_Rf, aL_I, aL_L, aL_Rf, aR_I, aR_L, aR_Rf, upd, hK]
theorem lay_D3 {AC : Nat → ClassId} {Γ : Ev} {σ : St} {n : Nat} (hK : Γ.K n = 3) : lay AC Γ σ (344 + n) = .inr (3, [.int (σ.I 6 n), .int (σ.I 7 n), .int (σ.I 8 n), .int (σ.I 9 n), .int (σ.I 10 n), .int (σ.I 11 n), .int (σ.I 12 n), .long (σ.L 2 n)]) := by
  rw [lay_D]; simp [layD, layX, hK]
theorem wσ_dnum3 {AC : Nat → ClassId} {Γ : Ev} {σ : St} {n : Nat} (hK : Γ.K n = 3) (v : Int32) : wS (wσ AC Γ σ) (344 + n) (.inr (3, [.int v, .int (σ.I 7 n), .int (σ.I 8 n), .int (σ.I 9 n), .int (σ.I 10 n), .int (σ.I 11 n), .int (σ.I 12 n), .long (σ.L 2 n)])) = wσ AC Γ (σ.sI 6 n v) := by
  refine wσ_set ?_ (fun i hi => lay_eq hi (fun j _ _ => lay0_eq (by first | rfl | (simp only [aI_I, aI_L, aI_Rf, aL_I, aL_L, aL_Rf, aR_I, aR_L, aR_Rf]; rw [if_neg (by omega)])) (by first | rfl | (simp only [aI_I, aI_L, aI_Rf, aL_I, aL_L, aL_Rf, aR_I, aR_L, aR_Rf]; rw [if_neg (by omega)]))) (fun p' j hp' hj hne => layP_eq (fun _ => ⟨(by first | rfl | (simp only [aI_I, aI_L, aI_Rf, aL_I, aL_L, aL_Rf, aR_I, aR_L, aR_Rf]; rw [if_neg (by omega)])), (by first | rfl | (simp only [aI_I, aI_L, aI_Rf, aL_I, aL_L, aL_Rf, aR_I, aR_L, aR_Rf]; rw [if_neg (by omega)])), (by first | rfl | (simp only [aI_I, aI_L, aI_Rf, aL_I, aL_L, aL_Rf, aR_I, aR_L, aR_Rf]; rw [if_neg (by omega)])), (by first | rfl | (simp only [aI_I, aI_L, aI_Rf, aL_I, aL_L, aL_Rf, aR_I, aR_L, aR_Rf]; rw [if_neg (by omega)])), (by first | rfl | (simp only [aI_I, aI_L, aI_Rf, aL_I, aL_L, aL_Rf, aR_I, aR_L, aR_Rf]; rw [if_neg (by omega)])), (by first | rfl | (simp only [aI_I, aI_L, aI_Rf, aL_I, aL_L, aL_Rf, aR_I, aR_L, aR_Rf]; rw [if_neg (by omega)]))⟩) (fun _ => (by first | rfl | (simp only [aI_I, aI_L, aI_Rf, aL_I, aL_L, aL_Rf, aR_I, aR_L, aR_Rf]; rw [if_neg (by omega)]))) (fun _ => (by first | rfl | (simp only [aI_I, aI_L, aI_Rf, aL_I, aL_L, aL_Rf, aR_I, aR_L, aR_Rf]; rw [if_neg (by omega)]))) (fun _ => (by first | rfl | (simp only [aI_I, aI_L, aI_Rf, aL_I, aL_L, aL_Rf, aR_I, aR_L, aR_Rf]; rw [if_neg (by omega)]))) hj) (fun j hj _ => layM_eq (fun _ => (by first | rfl | (simp only [aI_I, aI_L, aI_Rf, aL_I, aL_L, aL_Rf, aR_I, aR_L, aR_Rf]; rw [if_neg (by omega)]))) (fun k h1 h2 _ => (by first | rfl | (simp only [aI_I, aI_L, aI_Rf, aL_I, aL_L, aL_Rf, aR_I, aR_L, aR_Rf]; rw [if_neg (by omega)]))) (fun k h1 h2 _ => (by first | rfl | (simp only [aI_I, aI_L, aI_Rf, aL_I, aL_L, aL_Rf, aR_I, aR_L, aR_Rf]; rw [if_neg (by omega)]))) hj) (fun n' hne => layD_eq (fun k h1 h2 => by have hnn : ¬ n' = n := (by omega); simp only [aI_I, aI_L, aI_Rf, aL_I, aL_L, aL_Rf, aR_I, aR_L, aR_Rf]; split <;> simp [upd, hnn, *]) (by first | rfl | (simp only [aI_I, aI_L, aI_Rf, aL_I, aL_L, aL_Rf, aR_I, aR_L, aR_Rf]; rw [if_neg (by omega)]))))
  rw [lay_D]; simp [layD, layX, aI_I, aI_L, aI_Rf, aL_I, aL_L, aL_Rf, aR_I, aR_L, aR_Rf, upd, hK]
theorem wσ_drec3 {AC : Nat → ClassId} {Γ : Ev} {σ : St} {n : Nat} (hK : Γ.K n = 3) (v : Int32) : wS (wσ AC Γ σ) (344 + n) (.inr (3, [.int (σ.I 6 n), .int v, .int (σ.I 8 n), .int (σ.I 9 n), .int (σ.I 10 n), .int (σ.I 11 n), .int (σ.I 12 n), .long (σ.L 2 n)])) = wσ AC Γ (σ.sI 7 n v) := by
  refine wσ_set ?_ (fun i hi => lay_eq hi (fun j _ _ => lay0_eq (by first | rfl | (simp only [aI_I, aI_L, aI_Rf, aL_I, aL_L, aL_Rf, aR_I, aR_L, aR_Rf]; rw [if_neg (by omega)])) (by first | rfl | (simp only [aI_I, aI_L, aI_Rf, aL_I, aL_L, aL_Rf, aR_I, aR_L, aR_Rf]; rw [if_neg (by omega)]))) (fun p' j hp' hj hne => layP_eq (fun _ => ⟨(by first | rfl | (simp only [aI_I, aI_L, aI_Rf, aL_I, aL_L, aL_Rf, aR_I, aR_L, aR_Rf]; rw [if_neg (by omega)])), (by first | rfl | (simp only [aI_I, aI_L, aI_Rf, aL_I, aL_L, aL_Rf, aR_I, aR_L, aR_Rf]; rw [if_neg (by omega)])), (by first | rfl | (simp only [aI_I, aI_L, aI_Rf, aL_I, aL_L, aL_Rf, aR_I, aR_L, aR_Rf]; rw [if_neg (by omega)])), (by first | rfl | (simp only [aI_I, aI_L, aI_Rf, aL_I, aL_L, aL_Rf, aR_I, aR_L, aR_Rf]; rw [if_neg (by omega)])), (by first | rfl | (simp only [aI_I, aI_L, aI_Rf, aL_I, aL_L, aL_Rf, aR_I, aR_L, aR_Rf]; rw [if_neg (by omega)])), (by first | rfl | (simp only [aI_I, aI_L, aI_Rf, aL_I, aL_L, aL_Rf, aR_I, aR_L, aR_Rf]; rw [if_neg (by omega)]))⟩) (fun _ => (by first | rfl | (simp only [aI_I, aI_L, aI_Rf, aL_I, aL_L, aL_Rf, aR_I, aR_L, aR_Rf]; rw [if_neg (by omega)]))) (fun _ => (by first | rfl | (simp only [aI_I, aI_L, aI_Rf, aL_I, aL_L, aL_Rf, aR_I, aR_L, aR_Rf]; rw [if_neg (by omega)]))) (fun _ => (by first | rfl | (simp only [aI_I, aI_L, aI_Rf, aL_I, aL_L, aL_Rf, aR_I, aR_L, aR_Rf]; rw [if_neg (by omega)]))) hj) (fun j hj _ => layM_eq (fun _ => (by first | rfl | (simp only [aI_I, aI_L, aI_Rf, aL_I, aL_L, aL_Rf, aR_I, aR_L, aR_Rf]; rw [if_neg (by omega)]))) (fun k h1 h2 _ => (by first | rfl | (simp only [aI_I, aI_L, aI_Rf, aL_I, aL_L, aL_Rf, aR_I, aR_L, aR_Rf]; rw [if_neg (by omega)]))) (fun k h1 h2 _ => (by first | rfl | (simp only [aI_I, aI_L, aI_Rf, aL_I, aL_L, aL_Rf, aR_I, aR_L, aR_Rf]; rw [if_neg (by omega)]))) hj) (fun n' hne => layD_eq (fun k h1 h2 => by have hnn : ¬ n' = n := (by omega); simp only [aI_I, aI_L, aI_Rf, aL_I, aL_L, aL_Rf, aR_I, aR_L, aR_Rf]; split <;> simp [upd, hnn, *]) (by first | rfl | (simp only [aI_I, aI_L, aI_Rf, aL_I, aL_L, aL_Rf, aR_I, aR_L, aR_Rf]; rw [if_neg (by omega)]))))
  rw [lay_D]; simp [layD, layX, aI_I, aI_L, aI_Rf, aL_I, aL_L, aL_Rf, aR_I, aR_L, aR_Rf, upd, hK]
theorem wσ_dfact3 {AC : Nat → ClassId} {Γ : Ev} {σ : St} {n : Nat} (hK : Γ.K n = 3) (v : Int32) : wS (wσ AC Γ σ) (344 + n) (.inr (3, [.int (σ.I 6 n), .int (σ.I 7 n), .int v, .int (σ.I 9 n), .int (σ.I 10 n), .int (σ.I 11 n), .int (σ.I 12 n), .long (σ.L 2 n)])) = wσ AC Γ (σ.sI 8 n v) := by
  refine wσ_set ?_ (fun i hi => lay_eq hi (fun j _ _ => lay0_eq (by first | rfl | (simp only [aI_I, aI_L, aI_Rf, aL_I, aL_L, aL_Rf, aR_I, aR_L, aR_Rf]; rw [if_neg (by omega)])) (by first | rfl | (simp only [aI_I, aI_L, aI_Rf, aL_I, aL_L, aL_Rf, aR_I, aR_L, aR_Rf]; rw [if_neg (by omega)]))) (fun p' j hp' hj hne => layP_eq (fun _ => ⟨(by first | rfl | (simp only [aI_I, aI_L, aI_Rf, aL_I, aL_L, aL_Rf, aR_I, aR_L, aR_Rf]; rw [if_neg (by omega)])), (by first | rfl | (simp only [aI_I, aI_L, aI_Rf, aL_I, aL_L, aL_Rf, aR_I, aR_L, aR_Rf]; rw [if_neg (by omega)])), (by first | rfl | (simp only [aI_I, aI_L, aI_Rf, aL_I, aL_L, aL_Rf, aR_I, aR_L, aR_Rf]; rw [if_neg (by omega)])), (by first | rfl | (simp only [aI_I, aI_L, aI_Rf, aL_I, aL_L, aL_Rf, aR_I, aR_L, aR_Rf]; rw [if_neg (by omega)])), (by first | rfl | (simp only [aI_I, aI_L, aI_Rf, aL_I, aL_L, aL_Rf, aR_I, aR_L, aR_Rf]; rw [if_neg (by omega)])), (by first | rfl | (simp only [aI_I, aI_L, aI_Rf, aL_I, aL_L, aL_Rf, aR_I, aR_L, aR_Rf]; rw [if_neg (by omega)]))⟩) (fun _ => (by first | rfl | (simp only [aI_I, aI_L, aI_Rf, aL_I, aL_L, aL_Rf, aR_I, aR_L, aR_Rf]; rw [if_neg (by omega)]))) (fun _ => (by first | rfl | (simp only [aI_I, aI_L, aI_Rf, aL_I, aL_L, aL_Rf, aR_I, aR_L, aR_Rf]; rw [if_neg (by omega)]))) (fun _ => (by first | rfl | (simp only [aI_I, aI_L, aI_Rf, aL_I, aL_L, aL_Rf, aR_I, aR_L, aR_Rf]; rw [if_neg (by omega)]))) hj) (fun j hj _ => layM_eq (fun _ => (by first | rfl | (simp only [aI_I, aI_L, aI_Rf, aL_I, aL_L, aL_Rf, aR_I, aR_L, aR_Rf]; rw [if_neg (by omega)]))) (fun k h1 h2 _ => (by first | rfl | (simp only [aI_I, aI_L, aI_Rf, aL_I, aL_L, aL_Rf, aR_I, aR_L, aR_Rf]; rw [if_neg (by omega)]))) (fun k h1 h2 _ => (by first | rfl | (simp only [aI_I, aI_L, aI_Rf, aL_I, aL_L, aL_Rf, aR_I, aR_L, aR_Rf]; rw [if_neg (by omega)]))) hj) (fun n' hne => layD_eq (fun k h1 h2 => by have hnn : ¬ n' = n := (by omega); simp only [aI_I, aI_L, aI_Rf, aL_I, aL_L, aL_Rf, aR_I, aR_L, aR_Rf]; split <;> simp [upd, hnn, *]) (by first | rfl | (simp only [aI_I, aI_L, aI_Rf, aL_I, aL_L, aL_Rf, aR_I, aR_L, aR_Rf]; rw [if_neg (by omega)]))))
  rw [lay_D]; simp [layD, layX, aI_I, aI_L, aI_Rf, aL_I, aL_L, aL_Rf, aR_I, aR_L, aR_Rf, upd, hK]
theorem wσ_dout3 {AC : Nat → ClassId} {Γ : Ev} {σ : St} {n : Nat} (hK : Γ.K n = 3) (v : Int32) : wS (wσ AC Γ σ) (344 + n) (.inr (3, [.int (σ.I 6 n), .int (σ.I 7 n), .int (σ.I 8 n), .int v, .int (σ.I 10 n), .int (σ.I 11 n), .int (σ.I 12 n), .long (σ.L 2 n)])) = wσ AC Γ (σ.sI 9 n v) := by
  refine wσ_set ?_ (fun i hi => lay_eq hi (fun j _ _ => lay0_eq (by first | rfl | (simp only [aI_I, aI_L, aI_Rf, aL_I, aL_L, aL_Rf, aR_I, aR_L, aR_Rf]; rw [if_neg (by omega)])) (by first | rfl | (simp only [aI_I, aI_L, aI_Rf, aL_I, aL_L, aL_Rf, aR_I, aR_L, aR_Rf]; rw [if_neg (by omega)]))) (fun p' j hp' hj hne => layP_eq (fun _ => ⟨(by first | rfl | (simp only [aI_I, aI_L, aI_Rf, aL_I, aL_L, aL_Rf, aR_I, aR_L, aR_Rf]; rw [if_neg (by omega)])), (by first | rfl | (simp only [aI_I, aI_L, aI_Rf, aL_I, aL_L, aL_Rf, aR_I, aR_L, aR_Rf]; rw [if_neg (by omega)])), (by first | rfl | (simp only [aI_I, aI_L, aI_Rf, aL_I, aL_L, aL_Rf, aR_I, aR_L, aR_Rf]; rw [if_neg (by omega)])), (by first | rfl | (simp only [aI_I, aI_L, aI_Rf, aL_I, aL_L, aL_Rf, aR_I, aR_L, aR_Rf]; rw [if_neg (by omega)])), (by first | rfl | (simp only [aI_I, aI_L, aI_Rf, aL_I, aL_L, aL_Rf, aR_I, aR_L, aR_Rf]; rw [if_neg (by omega)])), (by first | rfl | (simp only [aI_I, aI_L, aI_Rf, aL_I, aL_L, aL_Rf, aR_I, aR_L, aR_Rf]; rw [if_neg (by omega)]))⟩) (fun _ => (by first | rfl | (simp only [aI_I, aI_L, aI_Rf, aL_I, aL_L, aL_Rf, aR_I, aR_L, aR_Rf]; rw [if_neg (by omega)]))) (fun _ => (by first | rfl | (simp only [aI_I, aI_L, aI_Rf, aL_I, aL_L, aL_Rf, aR_I, aR_L, aR_Rf]; rw [if_neg (by omega)]))) (fun _ => (by first | rfl | (simp only [aI_I, aI_L, aI_Rf, aL_I, aL_L, aL_Rf, aR_I, aR_L, aR_Rf]; rw [if_neg (by omega)]))) hj) (fun j hj _ => layM_eq (fun _ => (by first | rfl | (simp only [aI_I, aI_L, aI_Rf, aL_I, aL_L, aL_Rf, aR_I, aR_L, aR_Rf]; rw [if_neg (by omega)]))) (fun k h1 h2 _ => (by first | rfl | (simp only [aI_I, aI_L, aI_Rf, aL_I, aL_L, aL_Rf, aR_I, aR_L, aR_Rf]; rw [if_neg (by omega)]))) (fun k h1 h2 _ => (by first | rfl | (simp only [aI_I, aI_L, aI_Rf, aL_I, aL_L, aL_Rf, aR_I, aR_L, aR_Rf]; rw [if_neg (by omega)]))) hj) (fun n' hne => layD_eq (fun k h1 h2 => by have hnn : ¬ n' = n := (by omega); simp only [aI_I, aI_L, aI_Rf, aL_I, aL_L, aL_Rf, aR_I, aR_L, aR_Rf]; split <;> simp [upd, hnn, *]) (by first | rfl | (simp only [aI_I, aI_L, aI_Rf, aL_I, aL_L, aL_Rf, aR_I, aR_L, aR_Rf]; rw [if_neg (by omega)]))))
  rw [lay_D]; simp [layD, layX, aI_I, aI_L, aI_Rf, aL_I, aL_L, aL_Rf, aR_I, aR_L, aR_Rf, upd, hK]
theorem wσ_dx3_0 {AC : Nat → ClassId} {Γ : Ev} {σ : St} {n : Nat} (hK : Γ.K n = 3) (v : Int32) : wS (wσ AC Γ σ) (344 + n) (.inr (3, [.int (σ.I 6 n), .int (σ.I 7 n), .int (σ.I 8 n), .int (σ.I 9 n), .int v, .int (σ.I 11 n), .int (σ.I 12 n), .long (σ.L 2 n)])) = wσ AC Γ (σ.sI 10 n v) := by
  refine wσ_set ?_ (fun i hi => lay_eq hi (fun j _ _ => lay0_eq (by first | rfl | (simp only [aI_I, aI_L, aI_Rf, aL_I, aL_L, aL_Rf, aR_I, aR_L, aR_Rf]; rw [if_neg (by omega)])) (by first | rfl | (simp only [aI_I, aI_L, aI_Rf, aL_I, aL_L, aL_Rf, aR_I, aR_L, aR_Rf]; rw [if_neg (by omega)]))) (fun p' j hp' hj hne => layP_eq (fun _ => ⟨(by first | rfl | (simp only [aI_I, aI_L, aI_Rf, aL_I, aL_L, aL_Rf, aR_I, aR_L, aR_Rf]; rw [if_neg (by omega)])), (by first | rfl | (simp only [aI_I, aI_L, aI_Rf, aL_I, aL_L, aL_Rf, aR_I, aR_L, aR_Rf]; rw [if_neg (by omega)])), (by first | rfl | (simp only [aI_I, aI_L, aI_Rf, aL_I, aL_L, aL_Rf, aR_I, aR_L, aR_Rf]; rw [if_neg (by omega)])), (by first | rfl | (simp only [aI_I, aI_L, aI_Rf, aL_I, aL_L, aL_Rf, aR_I, aR_L, aR_Rf]; rw [if_neg (by omega)])), (by first | rfl | (simp only [aI_I, aI_L, aI_Rf, aL_I, aL_L, aL_Rf, aR_I, aR_L, aR_Rf]; rw [if_neg (by omega)])), (by first | rfl | (simp only [aI_I, aI_L, aI_Rf, aL_I, aL_L, aL_Rf, aR_I, aR_L, aR_Rf]; rw [if_neg (by omega)]))⟩) (fun _ => (by first | rfl | (simp only [aI_I, aI_L, aI_Rf, aL_I, aL_L, aL_Rf, aR_I, aR_L, aR_Rf]; rw [if_neg (by omega)]))) (fun _ => (by first | rfl | (simp only [aI_I, aI_L, aI_Rf, aL_I, aL_L, aL_Rf, aR_I, aR_L, aR_Rf]; rw [if_neg (by omega)]))) (fun _ => (by first | rfl | (simp only [aI_I, aI_L, aI_Rf, aL_I, aL_L, aL_Rf, aR_I, aR_L, aR_Rf]; rw [if_neg (by omega)]))) hj) (fun j hj _ => layM_eq (fun _ => (by first | rfl | (simp only [aI_I, aI_L, aI_Rf, aL_I, aL_L, aL_Rf, aR_I, aR_L, aR_Rf]; rw [if_neg (by omega)]))) (fun k h1 h2 _ => (by first | rfl | (simp only [aI_I, aI_L, aI_Rf, aL_I, aL_L, aL_Rf, aR_I, aR_L, aR_Rf]; rw [if_neg (by omega)]))) (fun k h1 h2 _ => (by first | rfl | (simp only [aI_I, aI_L, aI_Rf, aL_I, aL_L, aL_Rf, aR_I, aR_L, aR_Rf]; rw [if_neg (by omega)]))) hj) (fun n' hne => layD_eq (fun k h1 h2 => by have hnn : ¬ n' = n := (by omega); simp only [aI_I, aI_L, aI_Rf, aL_I, aL_L, aL_Rf, aR_I, aR_L, aR_Rf]; split <;> simp [upd, hnn, *]) (by first | rfl | (simp only [aI_I, aI_L, aI_Rf, aL_I, aL_L, aL_Rf, aR_I, aR_L, aR_Rf]; rw [if_neg (by omega)]))))
  rw [lay_D]; simp [layD, layX, aI_I, aI_L, aI_Rf, aL_I, aL_L, aL_Rf, aR_I, aR_L, aR_Rf, upd, hK]
theorem wσ_dx3_1 {AC : Nat → ClassId} {Γ : Ev} {σ : St} {n : Nat} (hK : Γ.K n = 3) (v : Int32) : wS (wσ AC Γ σ) (344 + n) (.inr (3, [.int (σ.I 6 n), .int (σ.I 7 n), .int (σ.I 8 n), .int (σ.I 9 n), .int (σ.I 10 n), .int v, .int (σ.I 12 n), .long (σ.L 2 n)])) = wσ AC Γ (σ.sI 11 n v) := by
  refine wσ_set ?_ (fun i hi => lay_eq hi (fun j _ _ => lay0_eq (by first | rfl | (simp only [aI_I, aI_L, aI_Rf, aL_I, aL_L, aL_Rf, aR_I, aR_L, aR_Rf]; rw [if_neg (by omega)])) (by first | rfl | (simp only [aI_I, aI_L, aI_Rf, aL_I, aL_L, aL_Rf, aR_I, aR_L, aR_Rf]; rw [if_neg (by omega)]))) (fun p' j hp' hj hne => layP_eq (fun _ => ⟨(by first | rfl | (simp only [aI_I, aI_L, aI_Rf, aL_I, aL_L, aL_Rf, aR_I, aR_L, aR_Rf]; rw [if_neg (by omega)])), (by first | rfl | (simp only [aI_I, aI_L, aI_Rf, aL_I, aL_L, aL_Rf, aR_I, aR_L, aR_Rf]; rw [if_neg (by omega)])), (by first | rfl | (simp only [aI_I, aI_L, aI_Rf, aL_I, aL_L, aL_Rf, aR_I, aR_L, aR_Rf]; rw [if_neg (by omega)])), (by first | rfl | (simp only [aI_I, aI_L, aI_Rf, aL_I, aL_L, aL_Rf, aR_I, aR_L, aR_Rf]; rw [if_neg (by omega)])), (by first | rfl | (simp only [aI_I, aI_L, aI_Rf, aL_I, aL_L, aL_Rf, aR_I, aR_L, aR_Rf]; rw [if_neg (by omega)])), (by first | rfl | (simp only [aI_I, aI_L, aI_Rf, aL_I, aL_L, aL_Rf, aR_I, aR_L, aR_Rf]; rw [if_neg (by omega)]))⟩) (fun _ => (by first | rfl | (simp only [aI_I, aI_L, aI_Rf, aL_I, aL_L, aL_Rf, aR_I, aR_L, aR_Rf]; rw [if_neg (by omega)]))) (fun _ => (by first | rfl | (simp only [aI_I, aI_L, aI_Rf, aL_I, aL_L, aL_Rf, aR_I, aR_L, aR_Rf]; rw [if_neg (by omega)]))) (fun _ => (by first | rfl | (simp only [aI_I, aI_L, aI_Rf, aL_I, aL_L, aL_Rf, aR_I, aR_L, aR_Rf]; rw [if_neg (by omega)]))) hj) (fun j hj _ => layM_eq (fun _ => (by first | rfl | (simp only [aI_I, aI_L, aI_Rf, aL_I, aL_L, aL_Rf, aR_I, aR_L, aR_Rf]; rw [if_neg (by omega)]))) (fun k h1 h2 _ => (by first | rfl | (simp only [aI_I, aI_L, aI_Rf, aL_I, aL_L, aL_Rf, aR_I, aR_L, aR_Rf]; rw [if_neg (by omega)]))) (fun k h1 h2 _ => (by first | rfl | (simp only [aI_I, aI_L, aI_Rf, aL_I, aL_L, aL_Rf, aR_I, aR_L, aR_Rf]; rw [if_neg (by omega)]))) hj) (fun n' hne => layD_eq (fun k h1 h2 => by have hnn : ¬ n' = n := (by omega); simp only [aI_I, aI_L, aI_Rf, aL_I, aL_L, aL_Rf, aR_I, aR_L, aR_Rf]; split <;> simp [upd, hnn, *]) (by first | rfl | (simp only [aI_I, aI_L, aI_Rf, aL_I, aL_L, aL_Rf, aR_I, aR_L, aR_Rf]; rw [if_neg (by omega)]))))
  rw [lay_D]; simp [layD, layX, aI_I, aI_L, aI_Rf, aL_I, aL_L, aL_Rf, aR_I, aR_L, aR_Rf, upd, hK]
theorem wσ_dx3_2 {AC : Nat → ClassId} {Γ : Ev} {σ : St} {n : Nat} (hK : Γ.K n = 3) (v : Int32) : wS (wσ AC Γ σ) (344 + n) (.inr (3, [.int (σ.I 6 n), .int (σ.I 7 n), .int (σ.I 8 n), .int (σ.I 9 n), .int (σ.I 10 n), .int (σ.I 11 n), .int v, .long (σ.L 2 n)])) = wσ AC Γ (σ.sI 12 n v) := by
  refine wσ_set ?_ (fun i hi => lay_eq hi (fun j _ _ => lay0_eq (by first | rfl | (simp only [aI_I, aI_L, aI_Rf, aL_I, aL_L, aL_Rf, aR_I, aR_L, aR_Rf]; rw [if_neg (by omega)])) (by first | rfl | (simp only [aI_I, aI_L, aI_Rf, aL_I, aL_L, aL_Rf, aR_I, aR_L, aR_Rf]; rw [if_neg (by omega)]))) (fun p' j hp' hj hne => layP_eq (fun _ => ⟨(by first | rfl | (simp only [aI_I, aI_L, aI_Rf, aL_I, aL_L, aL_Rf, aR_I, aR_L, aR_Rf]; rw [if_neg (by omega)])), (by first | rfl | (simp only [aI_I, aI_L, aI_Rf, aL_I, aL_L, aL_Rf, aR_I, aR_L, aR_Rf]; rw [if_neg (by omega)])), (by first | rfl | (simp only [aI_I, aI_L, aI_Rf, aL_I, aL_L, aL_Rf, aR_I, aR_L, aR_Rf]; rw [if_neg (by omega)])), (by first | rfl | (simp only [aI_I, aI_L, aI_Rf, aL_I, aL_L, aL_Rf, aR_I, aR_L, aR_Rf]; rw [if_neg (by omega)])), (by first | rfl | (simp only [aI_I, aI_L, aI_Rf, aL_I, aL_L, aL_Rf, aR_I, aR_L, aR_Rf]; rw [if_neg (by omega)])), (by first | rfl | (simp only [aI_I, aI_L, aI_Rf, aL_I, aL_L, aL_Rf, aR_I, aR_L, aR_Rf]; rw [if_neg (by omega)]))⟩) (fun _ => (by first | rfl | (simp only [aI_I, aI_L, aI_Rf, aL_I, aL_L, aL_Rf, aR_I, aR_L, aR_Rf]; rw [if_neg (by omega)]))) (fun _ => (by first | rfl | (simp only [aI_I, aI_L, aI_Rf, aL_I, aL_L, aL_Rf, aR_I, aR_L, aR_Rf]; rw [if_neg (by omega)]))) (fun _ => (by first | rfl | (simp only [aI_I, aI_L, aI_Rf, aL_I, aL_L, aL_Rf, aR_I, aR_L, aR_Rf]; rw [if_neg (by omega)]))) hj) (fun j hj _ => layM_eq (fun _ => (by first | rfl | (simp only [aI_I, aI_L, aI_Rf, aL_I, aL_L, aL_Rf, aR_I, aR_L, aR_Rf]; rw [if_neg (by omega)]))) (fun k h1 h2 _ => (by first | rfl | (simp only [aI_I, aI_L, aI_Rf, aL_I, aL_L, aL_Rf, aR_I, aR_L, aR_Rf]; rw [if_neg (by omega)]))) (fun k h1 h2 _ => (by first | rfl | (simp only [aI_I, aI_L, aI_Rf, aL_I, aL_L, aL_Rf, aR_I, aR_L, aR_Rf]; rw [if_neg (by omega)]))) hj) (fun n' hne => layD_eq (fun k h1 h2 => by have hnn : ¬ n' = n := (by omega); simp only [aI_I, aI_L, aI_Rf, aL_I, aL_L, aL_Rf, aR_I, aR_L, aR_Rf]; split <;> simp [upd, hnn, *]) (by first | rfl | (simp only [aI_I, aI_L, aI_Rf, aL_I, aL_L, aL_Rf, aR_I, aR_L, aR_Rf]; rw [if_neg (by omega)]))))
  rw [lay_D]; simp [layD, layX, aI_I, aI_L, aI_Rf, aL_I, aL_L, aL_Rf, aR_I, aR_L, aR_Rf, upd, hK]
theorem wσ_dx3_3 {AC : Nat → ClassId} {Γ : Ev} {σ : St} {n : Nat} (hK : Γ.K n = 3) (v : Int64) : wS (wσ AC Γ σ) (344 + n) (.inr (3, [.int (σ.I 6 n), .int (σ.I 7 n), .int (σ.I 8 n), .int (σ.I 9 n), .int (σ.I 10 n), .int (σ.I 11 n), .int (σ.I 12 n), .long v])) = wσ AC Γ (σ.sL 2 n v) := by
  refine wσ_set ?_ (fun i hi => lay_eq hi (fun j _ _ => lay0_eq (by first | rfl | (simp only [aI_I, aI_L, aI_Rf, aL_I, aL_L, aL_Rf, aR_I, aR_L, aR_Rf]; rw [if_neg (by omega)])) (by first | rfl | (simp only [aI_I, aI_L, aI_Rf, aL_I, aL_L, aL_Rf, aR_I, aR_L, aR_Rf]; rw [if_neg (by omega)]))) (fun p' j hp' hj hne => layP_eq (fun _ => ⟨(by first | rfl | (simp only [aI_I, aI_L, aI_Rf, aL_I, aL_L, aL_Rf, aR_I, aR_L, aR_Rf]; rw [if_neg (by omega)])), (by first | rfl | (simp only [aI_I, aI_L, aI_Rf, aL_I, aL_L, aL_Rf, aR_I, aR_L, aR_Rf]; rw [if_neg (by omega)])), (by first | rfl | (simp only [aI_I, aI_L, aI_Rf, aL_I, aL_L, aL_Rf, aR_I, aR_L, aR_Rf]; rw [if_neg (by omega)])), (by first | rfl | (simp only [aI_I, aI_L, aI_Rf, aL_I, aL_L, aL_Rf, aR_I, aR_L, aR_Rf]; rw [if_neg (by omega)])), (by first | rfl | (simp only [aI_I, aI_L, aI_Rf, aL_I, aL_L, aL_Rf, aR_I, aR_L, aR_Rf]; rw [if_neg (by omega)])), (by first | rfl | (simp only [aI_I, aI_L, aI_Rf, aL_I, aL_L, aL_Rf, aR_I, aR_L, aR_Rf]; rw [if_neg (by omega)]))⟩) (fun _ => (by first | rfl | (simp only [aI_I, aI_L, aI_Rf, aL_I, aL_L, aL_Rf, aR_I, aR_L, aR_Rf]; rw [if_neg (by omega)]))) (fun _ => (by first | rfl | (simp only [aI_I, aI_L, aI_Rf, aL_I, aL_L, aL_Rf, aR_I, aR_L, aR_Rf]; rw [if_neg (by omega)]))) (fun _ => (by first | rfl | (simp only [aI_I, aI_L, aI_Rf, aL_I, aL_L, aL_Rf, aR_I, aR_L, aR_Rf]; rw [if_neg (by omega)]))) hj) (fun j hj _ => layM_eq (fun _ => (by first | rfl | (simp only [aI_I, aI_L, aI_Rf, aL_I, aL_L, aL_Rf, aR_I, aR_L, aR_Rf]; rw [if_neg (by omega)]))) (fun k h1 h2 _ => (by first | rfl | (simp only [aI_I, aI_L, aI_Rf, aL_I, aL_L, aL_Rf, aR_I, aR_L, aR_Rf]; rw [if_neg (by omega)]))) (fun k h1 h2 _ => (by first | rfl | (simp only [aI_I, aI_L, aI_Rf, aL_I, aL_L, aL_Rf, aR_I, aR_L, aR_Rf]; rw [if_neg (by omega)]))) hj) (fun n' hne => layD_eq (fun k h1 h2 => (by first | rfl | (simp only [aI_I, aI_L, aI_Rf, aL_I, aL_L, aL_Rf, aR_I, aR_L, aR_Rf]; rw [if_neg (by omega)]))) (by have hnn : ¬ n' = n := (by omega); simp [aI_I, aI_L, aI_Rf, aL_I, aL_L, aL_Rf, aR_I, aR_L, aR_Rf, vp_updL, hnn])))
  rw [lay_D]; simp [layD, layX, aI_I, aI_L, aI_Rf, aL_I, aL_L, aL_Rf, aR_I, aR_L, aR_Rf, vp_updL, hK]
theorem lay_D4 {AC : Nat → ClassId} {Γ : Ev} {σ : St} {n : Nat} (hK : Γ.K n = 4) : lay AC Γ σ (344 + n) = .inr (4, [.int (σ.I 6 n), .int (σ.I 7 n), .int (σ.I 8 n), .int (σ.I 9 n), .int (σ.I 10 n), .int (σ.I 11 n), .int (σ.I 12 n)]) := by
  rw [lay_D]; simp [layD, layX, hK]
theorem wσ_dnum4 {AC : Nat → ClassId} {Γ : Ev} {σ : St} {n : Nat} (hK : Γ.K n = 4) (v : Int32) : wS (wσ AC Γ σ) (344 + n) (.inr (4, [.int v, .int (σ.I 7 n), .int (σ.I 8 n), .int (σ.I 9 n), .int (σ.I 10 n), .int (σ.I 11 n), .int (σ.I 12 n)])) = wσ AC Γ (σ.sI 6 n v) := by
  refine wσ_set ?_ (fun i hi => lay_eq hi (fun j _ _ => lay0_eq (by first | rfl | (simp only [aI_I, aI_L, aI_Rf, aL_I, aL_L, aL_Rf, aR_I, aR_L, aR_Rf]; rw [if_neg (by omega)])) (by first | rfl | (simp only [aI_I, aI_L, aI_Rf, aL_I, aL_L, aL_Rf, aR_I, aR_L, aR_Rf]; rw [if_neg (by omega)]))) (fun p' j hp' hj hne => layP_eq (fun _ => ⟨(by first | rfl | (simp only [aI_I, aI_L, aI_Rf, aL_I, aL_L, aL_Rf, aR_I, aR_L, aR_Rf]; rw [if_neg (by omega)])), (by first | rfl | (simp only [aI_I, aI_L, aI_Rf, aL_I, aL_L, aL_Rf, aR_I, aR_L, aR_Rf]; rw [if_neg (by omega)])), (by first | rfl | (simp only [aI_I, aI_L, aI_Rf, aL_I, aL_L, aL_Rf, aR_I, aR_L, aR_Rf]; rw [if_neg (by omega)])), (by first | rfl | (simp only [aI_I, aI_L, aI_Rf, aL_I, aL_L, aL_Rf, aR_I, aR_L, aR_Rf]; rw [if_neg (by omega)])), (by first | rfl | (simp only [aI_I, aI_L, aI_Rf, aL_I, aL_L, aL_Rf, aR_I, aR_L, aR_Rf]; rw [if_neg (by omega)])), (by first | rfl | (simp only [aI_I, aI_L, aI_Rf, aL_I, aL_L, aL_Rf, aR_I, aR_L, aR_Rf]; rw [if_neg (by omega)]))⟩) (fun _ => (by first | rfl | (simp only [aI_I, aI_L, aI_Rf, aL_I, aL_L, aL_Rf, aR_I, aR_L, aR_Rf]; rw [if_neg (by omega)]))) (fun _ => (by first | rfl | (simp only [aI_I, aI_L, aI_Rf, aL_I, aL_L, aL_Rf, aR_I, aR_L, aR_Rf]; rw [if_neg (by omega)]))) (fun _ => (by first | rfl | (simp only [aI_I, aI_L, aI_Rf, aL_I, aL_L, aL_Rf, aR_I, aR_L, aR_Rf]; rw [if_neg (by omega)]))) hj) (fun j hj _ => layM_eq (fun _ => (by first | rfl | (simp only [aI_I, aI_L, aI_Rf, aL_I, aL_L, aL_Rf, aR_I, aR_L, aR_Rf]; rw [if_neg (by omega)]))) (fun k h1 h2 _ => (by first | rfl | (simp only [aI_I, aI_L, aI_Rf, aL_I, aL_L, aL_Rf, aR_I, aR_L, aR_Rf]; rw [if_neg (by omega)]))) (fun k h1 h2 _ => (by first | rfl | (simp only [aI_I, aI_L, aI_Rf, aL_I, aL_L, aL_Rf, aR_I, aR_L, aR_Rf]; rw [if_neg (by omega)]))) hj) (fun n' hne => layD_eq (fun k h1 h2 => by have hnn : ¬ n' = n := (by omega); simp only [aI_I, aI_L, aI_Rf, aL_I, aL_L, aL_Rf, aR_I, aR_L, aR_Rf]; split <;> simp [upd, hnn, *]) (by first | rfl | (simp only [aI_I, aI_L, aI_Rf, aL_I, aL_L, aL_Rf, aR_I, aR_L, aR_Rf]; rw [if_neg (by omega)]))))
  rw [lay_D]; simp [layD, layX, aI_I, aI_L, aI_Rf, aL_I, aL_L, aL_Rf, aR_I, aR_L, aR_Rf, upd, hK]
theorem wσ_drec4 {AC : Nat → ClassId} {Γ : Ev} {σ : St} {n : Nat} (hK : Γ.K n = 4) (v : Int32) : wS (wσ AC Γ σ) (344 + n) (.inr (4, [.int (σ.I 6 n), .int v, .int (σ.I 8 n), .int (σ.I 9 n), .int (σ.I 10 n), .int (σ.I 11 n), .int (σ.I 12 n)])) = wσ AC Γ (σ.sI 7 n v) := by
  refine wσ_set ?_ (fun i hi => lay_eq hi (fun j _ _ => lay0_eq (by first | rfl | (simp only [aI_I, aI_L, aI_Rf, aL_I, aL_L, aL_Rf, aR_I, aR_L, aR_Rf]; rw [if_neg (by omega)])) (by first | rfl | (simp only [aI_I, aI_L, aI_Rf, aL_I, aL_L, aL_Rf, aR_I, aR_L, aR_Rf]; rw [if_neg (by omega)]))) (fun p' j hp' hj hne => layP_eq (fun _ => ⟨(by first | rfl | (simp only [aI_I, aI_L, aI_Rf, aL_I, aL_L, aL_Rf, aR_I, aR_L, aR_Rf]; rw [if_neg (by omega)])), (by first | rfl | (simp only [aI_I, aI_L, aI_Rf, aL_I, aL_L, aL_Rf, aR_I, aR_L, aR_Rf]; rw [if_neg (by omega)])), (by first | rfl | (simp only [aI_I, aI_L, aI_Rf, aL_I, aL_L, aL_Rf, aR_I, aR_L, aR_Rf]; rw [if_neg (by omega)])), (by first | rfl | (simp only [aI_I, aI_L, aI_Rf, aL_I, aL_L, aL_Rf, aR_I, aR_L, aR_Rf]; rw [if_neg (by omega)])), (by first | rfl | (simp only [aI_I, aI_L, aI_Rf, aL_I, aL_L, aL_Rf, aR_I, aR_L, aR_Rf]; rw [if_neg (by omega)])), (by first | rfl | (simp only [aI_I, aI_L, aI_Rf, aL_I, aL_L, aL_Rf, aR_I, aR_L, aR_Rf]; rw [if_neg (by omega)]))⟩) (fun _ => (by first | rfl | (simp only [aI_I, aI_L, aI_Rf, aL_I, aL_L, aL_Rf, aR_I, aR_L, aR_Rf]; rw [if_neg (by omega)]))) (fun _ => (by first | rfl | (simp only [aI_I, aI_L, aI_Rf, aL_I, aL_L, aL_Rf, aR_I, aR_L, aR_Rf]; rw [if_neg (by omega)]))) (fun _ => (by first | rfl | (simp only [aI_I, aI_L, aI_Rf, aL_I, aL_L, aL_Rf, aR_I, aR_L, aR_Rf]; rw [if_neg (by omega)]))) hj) (fun j hj _ => layM_eq (fun _ => (by first | rfl | (simp only [aI_I, aI_L, aI_Rf, aL_I, aL_L, aL_Rf, aR_I, aR_L, aR_Rf]; rw [if_neg (by omega)]))) (fun k h1 h2 _ => (by first | rfl | (simp only [aI_I, aI_L, aI_Rf, aL_I, aL_L, aL_Rf, aR_I, aR_L, aR_Rf]; rw [if_neg (by omega)]))) (fun k h1 h2 _ => (by first | rfl | (simp only [aI_I, aI_L, aI_Rf, aL_I, aL_L, aL_Rf, aR_I, aR_L, aR_Rf]; rw [if_neg (by omega)]))) hj) (fun n' hne => layD_eq (fun k h1 h2 => by have hnn : ¬ n' = n := (by omega); simp only [aI_I, aI_L, aI_Rf, aL_I, aL_L, aL_Rf, aR_I, aR_L, aR_Rf]; split <;> simp [upd, hnn, *]) (by first | rfl | (simp only [aI_I, aI_L, aI_Rf, aL_I, aL_L, aL_Rf, aR_I, aR_L, aR_Rf]; rw [if_neg (by omega)]))))
  rw [lay_D]; simp [layD, layX, aI_I, aI_L, aI_Rf, aL_I, aL_L, aL_Rf, aR_I, aR_L, aR_Rf, upd, hK]
theorem wσ_dfact4 {AC : Nat → ClassId} {Γ : Ev} {σ : St} {n : Nat} (hK : Γ.K n = 4) (v : Int32) : wS (wσ AC Γ σ) (344 + n) (.inr (4, [.int (σ.I 6 n), .int (σ.I 7 n), .int v, .int (σ.I 9 n), .int (σ.I 10 n), .int (σ.I 11 n), .int (σ.I 12 n)])) = wσ AC Γ (σ.sI 8 n v) := by
  refine wσ_set ?_ (fun i hi => lay_eq hi (fun j _ _ => lay0_eq (by first | rfl | (simp only [aI_I, aI_L, aI_Rf, aL_I, aL_L, aL_Rf, aR_I, aR_L, aR_Rf]; rw [if_neg (by omega)])) (by first | rfl | (simp only [aI_I, aI_L, aI_Rf, aL_I, aL_L, aL_Rf, aR_I, aR_L, aR_Rf]; rw [if_neg (by omega)]))) (fun p' j hp' hj hne => layP_eq (fun _ => ⟨(by first | rfl | (simp only [aI_I, aI_L, aI_Rf, aL_I, aL_L, aL_Rf, aR_I, aR_L, aR_Rf]; rw [if_neg (by omega)])), (by first | rfl | (simp only [aI_I, aI_L, aI_Rf, aL_I, aL_L, aL_Rf, aR_I, aR_L, aR_Rf]; rw [if_neg (by omega)])), (by first | rfl | (simp only [aI_I, aI_L, aI_Rf, aL_I, aL_L, aL_Rf, aR_I, aR_L, aR_Rf]; rw [if_neg (by omega)])), (by first | rfl | (simp only [aI_I, aI_L, aI_Rf, aL_I, aL_L, aL_Rf, aR_I, aR_L, aR_Rf]; rw [if_neg (by omega)])), (by first | rfl | (simp only [aI_I, aI_L, aI_Rf, aL_I, aL_L, aL_Rf, aR_I, aR_L, aR_Rf]; rw [if_neg (by omega)])), (by first | rfl | (simp only [aI_I, aI_L, aI_Rf, aL_I, aL_L, aL_Rf, aR_I, aR_L, aR_Rf]; rw [if_neg (by omega)]))⟩) (fun _ => (by first | rfl | (simp only [aI_I, aI_L, aI_Rf, aL_I, aL_L, aL_Rf, aR_I, aR_L, aR_Rf]; rw [if_neg (by omega)]))) (fun _ => (by first | rfl | (simp only [aI_I, aI_L, aI_Rf, aL_I, aL_L, aL_Rf, aR_I, aR_L, aR_Rf]; rw [if_neg (by omega)]))) (fun _ => (by first | rfl | (simp only [aI_I, aI_L, aI_Rf, aL_I, aL_L, aL_Rf, aR_I, aR_L, aR_Rf]; rw [if_neg (by omega)]))) hj) (fun j hj _ => layM_eq (fun _ => (by first | rfl | (simp only [aI_I, aI_L, aI_Rf, aL_I, aL_L, aL_Rf, aR_I, aR_L, aR_Rf]; rw [if_neg (by omega)]))) (fun k h1 h2 _ => (by first | rfl | (simp only [aI_I, aI_L, aI_Rf, aL_I, aL_L, aL_Rf, aR_I, aR_L, aR_Rf]; rw [if_neg (by omega)]))) (fun k h1 h2 _ => (by first | rfl | (simp only [aI_I, aI_L, aI_Rf, aL_I, aL_L, aL_Rf, aR_I, aR_L, aR_Rf]; rw [if_neg (by omega)]))) hj) (fun n' hne => layD_eq (fun k h1 h2 => by have hnn : ¬ n' = n := (by omega); simp only [aI_I, aI_L, aI_Rf, aL_I, aL_L, aL_Rf, aR_I, aR_L, aR_Rf]; split <;> simp [upd, hnn, *]) (by first | rfl | (simp only [aI_I, aI_L, aI_Rf, aL_I, aL_L, aL_Rf, aR_I, aR_L, aR_Rf]; rw [if_neg (by omega)]))))
  rw [lay_D]; simp [layD, layX, aI_I, aI_L, aI_Rf, aL_I, aL_L, aL_Rf, aR_I, aR_L, aR_Rf, upd, hK]
theorem wσ_dout4 {AC : Nat → ClassId} {Γ : Ev} {σ : St} {n : Nat} (hK : Γ.K n = 4) (v : Int32) : wS (wσ AC Γ σ) (344 + n) (.inr (4, [.int (σ.I 6 n), .int (σ.I 7 n), .int (σ.I 8 n), .int v, .int (σ.I 10 n), .int (σ.I 11 n), .int (σ.I 12 n)])) = wσ AC Γ (σ.sI 9 n v) := by
  refine wσ_set ?_ (fun i hi => lay_eq hi (fun j _ _ => lay0_eq (by first | rfl | (simp only [aI_I, aI_L, aI_Rf, aL_I, aL_L, aL_Rf, aR_I, aR_L, aR_Rf]; rw [if_neg (by omega)])) (by first | rfl | (simp only [aI_I, aI_L, aI_Rf, aL_I, aL_L, aL_Rf, aR_I, aR_L, aR_Rf]; rw [if_neg (by omega)]))) (fun p' j hp' hj hne => layP_eq (fun _ => ⟨(by first | rfl | (simp only [aI_I, aI_L, aI_Rf, aL_I, aL_L, aL_Rf, aR_I, aR_L, aR_Rf]; rw [if_neg (by omega)])), (by first | rfl | (simp only [aI_I, aI_L, aI_Rf, aL_I, aL_L, aL_Rf, aR_I, aR_L, aR_Rf]; rw [if_neg (by omega)])), (by first | rfl | (simp only [aI_I, aI_L, aI_Rf, aL_I, aL_L, aL_Rf, aR_I, aR_L, aR_Rf]; rw [if_neg (by omega)])), (by first | rfl | (simp only [aI_I, aI_L, aI_Rf, aL_I, aL_L, aL_Rf, aR_I, aR_L, aR_Rf]; rw [if_neg (by omega)])), (by first | rfl | (simp only [aI_I, aI_L, aI_Rf, aL_I, aL_L, aL_Rf, aR_I, aR_L, aR_Rf]; rw [if_neg (by omega)])), (by first | rfl | (simp only [aI_I, aI_L, aI_Rf, aL_I, aL_L, aL_Rf, aR_I, aR_L, aR_Rf]; rw [if_neg (by omega)]))⟩) (fun _ => (by first | rfl | (simp only [aI_I, aI_L, aI_Rf, aL_I, aL_L, aL_Rf, aR_I, aR_L, aR_Rf]; rw [if_neg (by omega)]))) (fun _ => (by first | rfl | (simp only [aI_I, aI_L, aI_Rf, aL_I, aL_L, aL_Rf, aR_I, aR_L, aR_Rf]; rw [if_neg (by omega)]))) (fun _ => (by first | rfl | (simp only [aI_I, aI_L, aI_Rf, aL_I, aL_L, aL_Rf, aR_I, aR_L, aR_Rf]; rw [if_neg (by omega)]))) hj) (fun j hj _ => layM_eq (fun _ => (by first | rfl | (simp only [aI_I, aI_L, aI_Rf, aL_I, aL_L, aL_Rf, aR_I, aR_L, aR_Rf]; rw [if_neg (by omega)]))) (fun k h1 h2 _ => (by first | rfl | (simp only [aI_I, aI_L, aI_Rf, aL_I, aL_L, aL_Rf, aR_I, aR_L, aR_Rf]; rw [if_neg (by omega)]))) (fun k h1 h2 _ => (by first | rfl | (simp only [aI_I, aI_L, aI_Rf, aL_I, aL_L, aL_Rf, aR_I, aR_L, aR_Rf]; rw [if_neg (by omega)]))) hj) (fun n' hne => layD_eq (fun k h1 h2 => by have hnn : ¬ n' = n := (by omega); simp only [aI_I, aI_L, aI_Rf, aL_I, aL_L, aL_Rf, aR_I, aR_L, aR_Rf]; split <;> simp [upd, hnn, *]) (by first | rfl | (simp only [aI_I, aI_L, aI_Rf, aL_I, aL_L, aL_Rf, aR_I, aR_L, aR_Rf]; rw [if_neg (by omega)]))))
  rw [lay_D]; simp [layD, layX, aI_I, aI_L, aI_Rf, aL_I, aL_L, aL_Rf, aR_I, aR_L, aR_Rf, upd, hK]
theorem wσ_dx4_0 {AC : Nat → ClassId} {Γ : Ev} {σ : St} {n : Nat} (hK : Γ.K n = 4) (v : Int32) : wS (wσ AC Γ σ) (344 + n) (.inr (4, [.int (σ.I 6 n), .int (σ.I 7 n), .int (σ.I 8 n), .int (σ.I 9 n), .int v, .int (σ.I 11 n), .int (σ.I 12 n)])) = wσ AC Γ (σ.sI 10 n v) := by
  refine wσ_set ?_ (fun i hi => lay_eq hi (fun j _ _ => lay0_eq (by first | rfl | (simp only [aI_I, aI_L, aI_Rf, aL_I, aL_L, aL_Rf, aR_I, aR_L, aR_Rf]; rw [if_neg (by omega)])) (by first | rfl | (simp only [aI_I, aI_L, aI_Rf, aL_I, aL_L, aL_Rf, aR_I, aR_L, aR_Rf]; rw [if_neg (by omega)]))) (fun p' j hp' hj hne => layP_eq (fun _ => ⟨(by first | rfl | (simp only [aI_I, aI_L, aI_Rf, aL_I, aL_L, aL_Rf, aR_I, aR_L, aR_Rf]; rw [if_neg (by omega)])), (by first | rfl | (simp only [aI_I, aI_L, aI_Rf, aL_I, aL_L, aL_Rf, aR_I, aR_L, aR_Rf]; rw [if_neg (by omega)])), (by first | rfl | (simp only [aI_I, aI_L, aI_Rf, aL_I, aL_L, aL_Rf, aR_I, aR_L, aR_Rf]; rw [if_neg (by omega)])), (by first | rfl | (simp only [aI_I, aI_L, aI_Rf, aL_I, aL_L, aL_Rf, aR_I, aR_L, aR_Rf]; rw [if_neg (by omega)])), (by first | rfl | (simp only [aI_I, aI_L, aI_Rf, aL_I, aL_L, aL_Rf, aR_I, aR_L, aR_Rf]; rw [if_neg (by omega)])), (by first | rfl | (simp only [aI_I, aI_L, aI_Rf, aL_I, aL_L, aL_Rf, aR_I, aR_L, aR_Rf]; rw [if_neg (by omega)]))⟩) (fun _ => (by first | rfl | (simp only [aI_I, aI_L, aI_Rf, aL_I, aL_L, aL_Rf, aR_I, aR_L, aR_Rf]; rw [if_neg (by omega)]))) (fun _ => (by first | rfl | (simp only [aI_I, aI_L, aI_Rf, aL_I, aL_L, aL_Rf, aR_I, aR_L, aR_Rf]; rw [if_neg (by omega)]))) (fun _ => (by first | rfl | (simp only [aI_I, aI_L, aI_Rf, aL_I, aL_L, aL_Rf, aR_I, aR_L, aR_Rf]; rw [if_neg (by omega)]))) hj) (fun j hj _ => layM_eq (fun _ => (by first | rfl | (simp only [aI_I, aI_L, aI_Rf, aL_I, aL_L, aL_Rf, aR_I, aR_L, aR_Rf]; rw [if_neg (by omega)]))) (fun k h1 h2 _ => (by first | rfl | (simp only [aI_I, aI_L, aI_Rf, aL_I, aL_L, aL_Rf, aR_I, aR_L, aR_Rf]; rw [if_neg (by omega)]))) (fun k h1 h2 _ => (by first | rfl | (simp only [aI_I, aI_L, aI_Rf, aL_I, aL_L, aL_Rf, aR_I, aR_L, aR_Rf]; rw [if_neg (by omega)]))) hj) (fun n' hne => layD_eq (fun k h1 h2 => by have hnn : ¬ n' = n := (by omega); simp only [aI_I, aI_L, aI_Rf, aL_I, aL_L, aL_Rf, aR_I, aR_L, aR_Rf]; split <;> simp [upd, hnn, *]) (by first | rfl | (simp only [aI_I, aI_L, aI_Rf, aL_I, aL_L, aL_Rf, aR_I, aR_L, aR_Rf]; rw [if_neg (by omega)]))))
  rw [lay_D]; simp [layD, layX, aI_I, aI_L, aI_Rf, aL_I, aL_L, aL_Rf, aR_I, aR_L, aR_Rf, upd, hK]
theorem wσ_dx4_1 {AC : Nat → ClassId} {Γ : Ev} {σ : St} {n : Nat} (hK : Γ.K n = 4) (v : Int32) : wS (wσ AC Γ σ) (344 + n) (.inr (4, [.int (σ.I 6 n), .int (σ.I 7 n), .int (σ.I 8 n), .int (σ.I 9 n), .int (σ.I 10 n), .int v, .int (σ.I 12 n)])) = wσ AC Γ (σ.sI 11 n v) := by
  refine wσ_set ?_ (fun i hi => lay_eq hi (fun j _ _ => lay0_eq (by first | rfl | (simp only [aI_I, aI_L, aI_Rf, aL_I, aL_L, aL_Rf, aR_I, aR_L, aR_Rf]; rw [if_neg (by omega)])) (by first | rfl | (simp only [aI_I, aI_L, aI_Rf, aL_I, aL_L, aL_Rf, aR_I, aR_L, aR_Rf]; rw [if_neg (by omega)]))) (fun p' j hp' hj hne => layP_eq (fun _ => ⟨(by first | rfl | (simp only [aI_I, aI_L, aI_Rf, aL_I, aL_L, aL_Rf, aR_I, aR_L, aR_Rf]; rw [if_neg (by omega)])), (by first | rfl | (simp only [aI_I, aI_L, aI_Rf, aL_I, aL_L, aL_Rf, aR_I, aR_L, aR_Rf]; rw [if_neg (by omega)])), (by first | rfl | (simp only [aI_I, aI_L, aI_Rf, aL_I, aL_L, aL_Rf, aR_I, aR_L, aR_Rf]; rw [if_neg (by omega)])), (by first | rfl | (simp only [aI_I, aI_L, aI_Rf, aL_I, aL_L, aL_Rf, aR_I, aR_L, aR_Rf]; rw [if_neg (by omega)])), (by first | rfl | (simp only [aI_I, aI_L, aI_Rf, aL_I, aL_L, aL_Rf, aR_I, aR_L, aR_Rf]; rw [if_neg (by omega)])), (by first | rfl | (simp only [aI_I, aI_L, aI_Rf, aL_I, aL_L, aL_Rf, aR_I, aR_L, aR_Rf]; rw [if_neg (by omega)]))⟩) (fun _ => (by first | rfl | (simp only [aI_I, aI_L, aI_Rf, aL_I, aL_L, aL_Rf, aR_I, aR_L, aR_Rf]; rw [if_neg (by omega)]))) (fun _ => (by first | rfl | (simp only [aI_I, aI_L, aI_Rf, aL_I, aL_L, aL_Rf, aR_I, aR_L, aR_Rf]; rw [if_neg (by omega)]))) (fun _ => (by first | rfl | (simp only [aI_I, aI_L, aI_Rf, aL_I, aL_L, aL_Rf, aR_I, aR_L, aR_Rf]; rw [if_neg (by omega)]))) hj) (fun j hj _ => layM_eq (fun _ => (by first | rfl | (simp only [aI_I, aI_L, aI_Rf, aL_I, aL_L, aL_Rf, aR_I, aR_L, aR_Rf]; rw [if_neg (by omega)]))) (fun k h1 h2 _ => (by first | rfl | (simp only [aI_I, aI_L, aI_Rf, aL_I, aL_L, aL_Rf, aR_I, aR_L, aR_Rf]; rw [if_neg (by omega)]))) (fun k h1 h2 _ => (by first | rfl | (simp only [aI_I, aI_L, aI_Rf, aL_I, aL_L, aL_Rf, aR_I, aR_L, aR_Rf]; rw [if_neg (by omega)]))) hj) (fun n' hne => layD_eq (fun k h1 h2 => by have hnn : ¬ n' = n := (by omega); simp only [aI_I, aI_L, aI_Rf, aL_I, aL_L, aL_Rf, aR_I, aR_L, aR_Rf]; split <;> simp [upd, hnn, *]) (by first | rfl | (simp only [aI_I, aI_L, aI_Rf, aL_I, aL_L, aL_Rf, aR_I, aR_L, aR_Rf]; rw [if_neg (by omega)]))))
  rw [lay_D]; simp [layD, layX, aI_I, aI_L, aI_Rf, aL_I, aL_L, aL_Rf, aR_I, aR_L, aR_Rf, upd, hK]
theorem wσ_dx4_2 {AC : Nat → ClassId} {Γ : Ev} {σ : St} {n : Nat} (hK : Γ.K n = 4) (v : Int32) : wS (wσ AC Γ σ) (344 + n) (.inr (4, [.int (σ.I 6 n), .int (σ.I 7 n), .int (σ.I 8 n), .int (σ.I 9 n), .int (σ.I 10 n), .int (σ.I 11 n), .int v])) = wσ AC Γ (σ.sI 12 n v) := by
  refine wσ_set ?_ (fun i hi => lay_eq hi (fun j _ _ => lay0_eq (by first | rfl | (simp only [aI_I, aI_L, aI_Rf, aL_I, aL_L, aL_Rf, aR_I, aR_L, aR_Rf]; rw [if_neg (by omega)])) (by first | rfl | (simp only [aI_I, aI_L, aI_Rf, aL_I, aL_L, aL_Rf, aR_I, aR_L, aR_Rf]; rw [if_neg (by omega)]))) (fun p' j hp' hj hne => layP_eq (fun _ => ⟨(by first | rfl | (simp only [aI_I, aI_L, aI_Rf, aL_I, aL_L, aL_Rf, aR_I, aR_L, aR_Rf]; rw [if_neg (by omega)])), (by first | rfl | (simp only [aI_I, aI_L, aI_Rf, aL_I, aL_L, aL_Rf, aR_I, aR_L, aR_Rf]; rw [if_neg (by omega)])), (by first | rfl | (simp only [aI_I, aI_L, aI_Rf, aL_I, aL_L, aL_Rf, aR_I, aR_L, aR_Rf]; rw [if_neg (by omega)])), (by first | rfl | (simp only [aI_I, aI_L, aI_Rf, aL_I, aL_L, aL_Rf, aR_I, aR_L, aR_Rf]; rw [if_neg (by omega)])), (by first | rfl | (simp only [aI_I, aI_L, aI_Rf, aL_I, aL_L, aL_Rf, aR_I, aR_L, aR_Rf]; rw [if_neg (by omega)])), (by first | rfl | (simp only [aI_I, aI_L, aI_Rf, aL_I, aL_L, aL_Rf, aR_I, aR_L, aR_Rf]; rw [if_neg (by omega)]))⟩) (fun _ => (by first | rfl | (simp only [aI_I, aI_L, aI_Rf, aL_I, aL_L, aL_Rf, aR_I, aR_L, aR_Rf]; rw [if_neg (by omega)]))) (fun _ => (by first | rfl | (simp only [aI_I, aI_L, aI_Rf, aL_I, aL_L, aL_Rf, aR_I, aR_L, aR_Rf]; rw [if_neg (by omega)]))) (fun _ => (by first | rfl | (simp only [aI_I, aI_L, aI_Rf, aL_I, aL_L, aL_Rf, aR_I, aR_L, aR_Rf]; rw [if_neg (by omega)]))) hj) (fun j hj _ => layM_eq (fun _ => (by first | rfl | (simp only [aI_I, aI_L, aI_Rf, aL_I, aL_L, aL_Rf, aR_I, aR_L, aR_Rf]; rw [if_neg (by omega)]))) (fun k h1 h2 _ => (by first | rfl | (simp only [aI_I, aI_L, aI_Rf, aL_I, aL_L, aL_Rf, aR_I, aR_L, aR_Rf]; rw [if_neg (by omega)]))) (fun k h1 h2 _ => (by first | rfl | (simp only [aI_I, aI_L, aI_Rf, aL_I, aL_L, aL_Rf, aR_I, aR_L, aR_Rf]; rw [if_neg (by omega)]))) hj) (fun n' hne => layD_eq (fun k h1 h2 => by have hnn : ¬ n' = n := (by omega); simp only [aI_I, aI_L, aI_Rf, aL_I, aL_L, aL_Rf, aR_I, aR_L, aR_Rf]; split <;> simp [upd, hnn, *]) (by first | rfl | (simp only [aI_I, aI_L, aI_Rf, aL_I, aL_L, aL_Rf, aR_I, aR_L, aR_Rf]; rw [if_neg (by omega)]))))
  rw [lay_D]; simp [layD, layX, aI_I, aI_L, aI_Rf, aL_I, aL_L, aL_Rf, aR_I, aR_L, aR_Rf, upd, hK]
theorem lay_D5 {AC : Nat → ClassId} {Γ : Ev} {σ : St} {n : Nat} (hK : Γ.K n = 5) : lay AC Γ σ (344 + n) = .inr (5, [.int (σ.I 6 n), .int (σ.I 7 n), .int (σ.I 8 n), .int (σ.I 9 n), .int (σ.I 10 n), .int (σ.I 11 n), .int (σ.I 12 n), .int (σ.I 13 n)]) := by
  rw [lay_D]; simp [layD, layX, hK]
theorem wσ_dnum5 {AC : Nat → ClassId} {Γ : Ev} {σ : St} {n : Nat} (hK : Γ.K n = 5) (v : Int32) : wS (wσ AC Γ σ) (344 + n) (.inr (5, [.int v, .int (σ.I 7 n), .int (σ.I 8 n), .int (σ.I 9 n), .int (σ.I 10 n), .int (σ.I 11 n), .int (σ.I 12 n), .int (σ.I 13 n)])) = wσ AC Γ (σ.sI 6 n v) := by
  refine wσ_set ?_ (fun i hi => lay_eq hi (fun j _ _ => lay0_eq (by first | rfl | (simp only [aI_I, aI_L, aI_Rf, aL_I, aL_L, aL_Rf, aR_I, aR_L, aR_Rf]; rw [if_neg (by omega)])) (by first | rfl | (simp only [aI_I, aI_L, aI_Rf, aL_I, aL_L, aL_Rf, aR_I, aR_L, aR_Rf]; rw [if_neg (by omega)]))) (fun p' j hp' hj hne => layP_eq (fun _ => ⟨(by first | rfl | (simp only [aI_I, aI_L, aI_Rf, aL_I, aL_L, aL_Rf, aR_I, aR_L, aR_Rf]; rw [if_neg (by omega)])), (by first | rfl | (simp only [aI_I, aI_L, aI_Rf, aL_I, aL_L, aL_Rf, aR_I, aR_L, aR_Rf]; rw [if_neg (by omega)])), (by first | rfl | (simp only [aI_I, aI_L, aI_Rf, aL_I, aL_L, aL_Rf, aR_I, aR_L, aR_Rf]; rw [if_neg (by omega)])), (by first | rfl | (simp only [aI_I, aI_L, aI_Rf, aL_I, aL_L, aL_Rf, aR_I, aR_L, aR_Rf]; rw [if_neg (by omega)])), (by first | rfl | (simp only [aI_I, aI_L, aI_Rf, aL_I, aL_L, aL_Rf, aR_I, aR_L, aR_Rf]; rw [if_neg (by omega)])), (by first | rfl | (simp only [aI_I, aI_L, aI_Rf, aL_I, aL_L, aL_Rf, aR_I, aR_L, aR_Rf]; rw [if_neg (by omega)]))⟩) (fun _ => (by first | rfl | (simp only [aI_I, aI_L, aI_Rf, aL_I, aL_L, aL_Rf, aR_I, aR_L, aR_Rf]; rw [if_neg (by omega)]))) (fun _ => (by first | rfl | (simp only [aI_I, aI_L, aI_Rf, aL_I, aL_L, aL_Rf, aR_I, aR_L, aR_Rf]; rw [if_neg (by omega)]))) (fun _ => (by first | rfl | (simp only [aI_I, aI_L, aI_Rf, aL_I, aL_L, aL_Rf, aR_I, aR_L, aR_Rf]; rw [if_neg (by omega)]))) hj) (fun j hj _ => layM_eq (fun _ => (by first | rfl | (simp only [aI_I, aI_L, aI_Rf, aL_I, aL_L, aL_Rf, aR_I, aR_L, aR_Rf]; rw [if_neg (by omega)]))) (fun k h1 h2 _ => (by first | rfl | (simp only [aI_I, aI_L, aI_Rf, aL_I, aL_L, aL_Rf, aR_I, aR_L, aR_Rf]; rw [if_neg (by omega)]))) (fun k h1 h2 _ => (by first | rfl | (simp only [aI_I, aI_L, aI_Rf, aL_I, aL_L, aL_Rf, aR_I, aR_L, aR_Rf]; rw [if_neg (by omega)]))) hj) (fun n' hne => layD_eq (fun k h1 h2 => by have hnn : ¬ n' = n := (by omega); simp only [aI_I, aI_L, aI_Rf, aL_I, aL_L, aL_Rf, aR_I, aR_L, aR_Rf]; split <;> simp [upd, hnn, *]) (by first | rfl | (simp only [aI_I, aI_L, aI_Rf, aL_I, aL_L, aL_Rf, aR_I, aR_L, aR_Rf]; rw [if_neg (by omega)]))))
  rw [lay_D]; simp [layD, layX, aI_I, aI_L, aI_Rf, aL_I, aL_L, aL_Rf, aR_I, aR_L, aR_Rf, upd, hK]
theorem wσ_drec5 {AC : Nat → ClassId} {Γ : Ev} {σ : St} {n : Nat} (hK : Γ.K n = 5) (v : Int32) : wS (wσ AC Γ σ) (344 + n) (.inr (5, [.int (σ.I 6 n), .int v, .int (σ.I 8 n), .int (σ.I 9 n), .int (σ.I 10 n), .int (σ.I 11 n), .int (σ.I 12 n), .int (σ.I 13 n)])) = wσ AC Γ (σ.sI 7 n v) := by
  refine wσ_set ?_ (fun i hi => lay_eq hi (fun j _ _ => lay0_eq (by first | rfl | (simp only [aI_I, aI_L, aI_Rf, aL_I, aL_L, aL_Rf, aR_I, aR_L, aR_Rf]; rw [if_neg (by omega)])) (by first | rfl | (simp only [aI_I, aI_L, aI_Rf, aL_I, aL_L, aL_Rf, aR_I, aR_L, aR_Rf]; rw [if_neg (by omega)]))) (fun p' j hp' hj hne => layP_eq (fun _ => ⟨(by first | rfl | (simp only [aI_I, aI_L, aI_Rf, aL_I, aL_L, aL_Rf, aR_I, aR_L, aR_Rf]; rw [if_neg (by omega)])), (by first | rfl | (simp only [aI_I, aI_L, aI_Rf, aL_I, aL_L, aL_Rf, aR_I, aR_L, aR_Rf]; rw [if_neg (by omega)])), (by first | rfl | (simp only [aI_I, aI_L, aI_Rf, aL_I, aL_L, aL_Rf, aR_I, aR_L, aR_Rf]; rw [if_neg (by omega)])), (by first | rfl | (simp only [aI_I, aI_L, aI_Rf, aL_I, aL_L, aL_Rf, aR_I, aR_L, aR_Rf]; rw [if_neg (by omega)])), (by first | rfl | (simp only [aI_I, aI_L, aI_Rf, aL_I, aL_L, aL_Rf, aR_I, aR_L, aR_Rf]; rw [if_neg (by omega)])), (by first | rfl | (simp only [aI_I, aI_L, aI_Rf, aL_I, aL_L, aL_Rf, aR_I, aR_L, aR_Rf]; rw [if_neg (by omega)]))⟩) (fun _ => (by first | rfl | (simp only [aI_I, aI_L, aI_Rf, aL_I, aL_L, aL_Rf, aR_I, aR_L, aR_Rf]; rw [if_neg (by omega)]))) (fun _ => (by first | rfl | (simp only [aI_I, aI_L, aI_Rf, aL_I, aL_L, aL_Rf, aR_I, aR_L, aR_Rf]; rw [if_neg (by omega)]))) (fun _ => (by first | rfl | (simp only [aI_I, aI_L, aI_Rf, aL_I, aL_L, aL_Rf, aR_I, aR_L, aR_Rf]; rw [if_neg (by omega)]))) hj) (fun j hj _ => layM_eq (fun _ => (by first | rfl | (simp only [aI_I, aI_L, aI_Rf, aL_I, aL_L, aL_Rf, aR_I, aR_L, aR_Rf]; rw [if_neg (by omega)]))) (fun k h1 h2 _ => (by first | rfl | (simp only [aI_I, aI_L, aI_Rf, aL_I, aL_L, aL_Rf, aR_I, aR_L, aR_Rf]; rw [if_neg (by omega)]))) (fun k h1 h2 _ => (by first | rfl | (simp only [aI_I, aI_L, aI_Rf, aL_I, aL_L, aL_Rf, aR_I, aR_L, aR_Rf]; rw [if_neg (by omega)]))) hj) (fun n' hne => layD_eq (fun k h1 h2 => by have hnn : ¬ n' = n := (by omega); simp only [aI_I, aI_L, aI_Rf, aL_I, aL_L, aL_Rf, aR_I, aR_L, aR_Rf]; split <;> simp [upd, hnn, *]) (by first | rfl | (simp only [aI_I, aI_L, aI_Rf, aL_I, aL_L, aL_Rf, aR_I, aR_L, aR_Rf]; rw [if_neg (by omega)]))))
  rw [lay_D]; simp [layD, layX, aI_I, aI_L, aI_Rf, aL_I, aL_L, aL_Rf, aR_I, aR_L, aR_Rf, upd, hK]
theorem wσ_dfact5 {AC : Nat → ClassId} {Γ : Ev} {σ : St} {n : Nat} (hK : Γ.K n = 5) (v : Int32) : wS (wσ AC Γ σ) (344 + n) (.inr (5, [.int (σ.I 6 n), .int (σ.I 7 n), .int v, .int (σ.I 9 n), .int (σ.I 10 n), .int (σ.I 11 n), .int (σ.I 12 n), .int (σ.I 13 n)])) = wσ AC Γ (σ.sI 8 n v) := by
  refine wσ_set ?_ (fun i hi => lay_eq hi (fun j _ _ => lay0_eq (by first | rfl | (simp only [aI_I, aI_L, aI_Rf, aL_I, aL_L, aL_Rf, aR_I, aR_L, aR_Rf]; rw [if_neg (by omega)])) (by first | rfl | (simp only [aI_I, aI_L, aI_Rf, aL_I, aL_L, aL_Rf, aR_I, aR_L, aR_Rf]; rw [if_neg (by omega)]))) (fun p' j hp' hj hne => layP_eq (fun _ => ⟨(by first | rfl | (simp only [aI_I, aI_L, aI_Rf, aL_I, aL_L, aL_Rf, aR_I, aR_L, aR_Rf]; rw [if_neg (by omega)])), (by first | rfl | (simp only [aI_I, aI_L, aI_Rf, aL_I, aL_L, aL_Rf, aR_I, aR_L, aR_Rf]; rw [if_neg (by omega)])), (by first | rfl | (simp only [aI_I, aI_L, aI_Rf, aL_I, aL_L, aL_Rf, aR_I, aR_L, aR_Rf]; rw [if_neg (by omega)])), (by first | rfl | (simp only [aI_I, aI_L, aI_Rf, aL_I, aL_L, aL_Rf, aR_I, aR_L, aR_Rf]; rw [if_neg (by omega)])), (by first | rfl | (simp only [aI_I, aI_L, aI_Rf, aL_I, aL_L, aL_Rf, aR_I, aR_L, aR_Rf]; rw [if_neg (by omega)])), (by first | rfl | (simp only [aI_I, aI_L, aI_Rf, aL_I, aL_L, aL_Rf, aR_I, aR_L, aR_Rf]; rw [if_neg (by omega)]))⟩) (fun _ => (by first | rfl | (simp only [aI_I, aI_L, aI_Rf, aL_I, aL_L, aL_Rf, aR_I, aR_L, aR_Rf]; rw [if_neg (by omega)]))) (fun _ => (by first | rfl | (simp only [aI_I, aI_L, aI_Rf, aL_I, aL_L, aL_Rf, aR_I, aR_L, aR_Rf]; rw [if_neg (by omega)]))) (fun _ => (by first | rfl | (simp only [aI_I, aI_L, aI_Rf, aL_I, aL_L, aL_Rf, aR_I, aR_L, aR_Rf]; rw [if_neg (by omega)]))) hj) (fun j hj _ => layM_eq (fun _ => (by first | rfl | (simp only [aI_I, aI_L, aI_Rf, aL_I, aL_L, aL_Rf, aR_I, aR_L, aR_Rf]; rw [if_neg (by omega)]))) (fun k h1 h2 _ => (by first | rfl | (simp only [aI_I, aI_L, aI_Rf, aL_I, aL_L, aL_Rf, aR_I, aR_L, aR_Rf]; rw [if_neg (by omega)]))) (fun k h1 h2 _ => (by first | rfl | (simp only [aI_I, aI_L, aI_Rf, aL_I, aL_L, aL_Rf, aR_I, aR_L, aR_Rf]; rw [if_neg (by omega)]))) hj) (fun n' hne => layD_eq (fun k h1 h2 => by have hnn : ¬ n' = n := (by omega); simp only [aI_I, aI_L, aI_Rf, aL_I, aL_L, aL_Rf, aR_I, aR_L, aR_Rf]; split <;> simp [upd, hnn, *]) (by first | rfl | (simp only [aI_I, aI_L, aI_Rf, aL_I, aL_L, aL_Rf, aR_I, aR_L, aR_Rf]; rw [if_neg (by omega)]))))
  rw [lay_D]; simp [layD, layX, aI_I, aI_L, aI_Rf, aL_I, aL_L, aL_Rf, aR_I, aR_L, aR_Rf, upd, hK]
theorem wσ_dout5 {AC : Nat → ClassId} {Γ : Ev} {σ : St} {n : Nat} (hK : Γ.K n = 5) (v : Int32) : wS (wσ AC Γ σ) (344 + n) (.inr (5, [.int (σ.I 6 n), .int (σ.I 7 n), .int (σ.I 8 n), .int v, .int (σ.I 10 n), .int (σ.I 11 n), .int (σ.I 12 n), .int (σ.I 13 n)])) = wσ AC Γ (σ.sI 9 n v) := by
  refine wσ_set ?_ (fun i hi => lay_eq hi (fun j _ _ => lay0_eq (by first | rfl | (simp only [aI_I, aI_L, aI_Rf, aL_I, aL_L, aL_Rf, aR_I, aR_L, aR_Rf]; rw [if_neg (by omega)])) (by first | rfl | (simp only [aI_I, aI_L, aI_Rf, aL_I, aL_L, aL_Rf, aR_I, aR_L, aR_Rf]; rw [if_neg (by omega)]))) (fun p' j hp' hj hne => layP_eq (fun _ => ⟨(by first | rfl | (simp only [aI_I, aI_L, aI_Rf, aL_I, aL_L, aL_Rf, aR_I, aR_L, aR_Rf]; rw [if_neg (by omega)])), (by first | rfl | (simp only [aI_I, aI_L, aI_Rf, aL_I, aL_L, aL_Rf, aR_I, aR_L, aR_Rf]; rw [if_neg (by omega)])), (by first | rfl | (simp only [aI_I, aI_L, aI_Rf, aL_I, aL_L, aL_Rf, aR_I, aR_L, aR_Rf]; rw [if_neg (by omega)])), (by first | rfl | (simp only [aI_I, aI_L, aI_Rf, aL_I, aL_L, aL_Rf, aR_I, aR_L, aR_Rf]; rw [if_neg (by omega)])), (by first | rfl | (simp only [aI_I, aI_L, aI_Rf, aL_I, aL_L, aL_Rf, aR_I, aR_L, aR_Rf]; rw [if_neg (by omega)])), (by first | rfl | (simp only [aI_I, aI_L, aI_Rf, aL_I, aL_L, aL_Rf, aR_I, aR_L, aR_Rf]; rw [if_neg (by omega)]))⟩) (fun _ => (by first | rfl | (simp only [aI_I, aI_L, aI_Rf, aL_I, aL_L, aL_Rf, aR_I, aR_L, aR_Rf]; rw [if_neg (by omega)]))) (fun _ => (by first | rfl | (simp only [aI_I, aI_L, aI_Rf, aL_I, aL_L, aL_Rf, aR_I, aR_L, aR_Rf]; rw [if_neg (by omega)]))) (fun _ => (by first | rfl | (simp only [aI_I, aI_L, aI_Rf, aL_I, aL_L, aL_Rf, aR_I, aR_L, aR_Rf]; rw [if_neg (by omega)]))) hj) (fun j hj _ => layM_eq (fun _ => (by first | rfl | (simp only [aI_I, aI_L, aI_Rf, aL_I, aL_L, aL_Rf, aR_I, aR_L, aR_Rf]; rw [if_neg (by omega)]))) (fun k h1 h2 _ => (by first | rfl | (simp only [aI_I, aI_L, aI_Rf, aL_I, aL_L, aL_Rf, aR_I, aR_L, aR_Rf]; rw [if_neg (by omega)]))) (fun k h1 h2 _ => (by first | rfl | (simp only [aI_I, aI_L, aI_Rf, aL_I, aL_L, aL_Rf, aR_I, aR_L, aR_Rf]; rw [if_neg (by omega)]))) hj) (fun n' hne => layD_eq (fun k h1 h2 => by have hnn : ¬ n' = n := (by omega); simp only [aI_I, aI_L, aI_Rf, aL_I, aL_L, aL_Rf, aR_I, aR_L, aR_Rf]; split <;> simp [upd, hnn, *]) (by first | rfl | (simp only [aI_I, aI_L, aI_Rf, aL_I, aL_L, aL_Rf, aR_I, aR_L, aR_Rf]; rw [if_neg (by omega)]))))
  rw [lay_D]; simp [layD, layX, aI_I, aI_L, aI_Rf, aL_I, aL_L, aL_Rf, aR_I, aR_L, aR_Rf, upd, hK]
theorem wσ_dx5_0 {AC : Nat → ClassId} {Γ : Ev} {σ : St} {n : Nat} (hK : Γ.K n = 5) (v : Int32) : wS (wσ AC Γ σ) (344 + n) (.inr (5, [.int (σ.I 6 n), .int (σ.I 7 n), .int (σ.I 8 n), .int (σ.I 9 n), .int v, .int (σ.I 11 n), .int (σ.I 12 n), .int (σ.I 13 n)])) = wσ AC Γ (σ.sI 10 n v) := by
  refine wσ_set ?_ (fun i hi => lay_eq hi (fun j _ _ => lay0_eq (by first | rfl | (simp only [aI_I, aI_L, aI_Rf, aL_I, aL_L, aL_Rf, aR_I, aR_L, aR_Rf]; rw [if_neg (by omega)])) (by first | rfl | (simp only [aI_I, aI_L, aI_Rf, aL_I, aL_L, aL_Rf, aR_I, aR_L, aR_Rf]; rw [if_neg (by omega)]))) (fun p' j hp' hj hne => layP_eq (fun _ => ⟨(by first | rfl | (simp only [aI_I, aI_L, aI_Rf, aL_I, aL_L, aL_Rf, aR_I, aR_L, aR_Rf]; rw [if_neg (by omega)])), (by first | rfl | (simp only [aI_I, aI_L, aI_Rf, aL_I, aL_L, aL_Rf, aR_I, aR_L, aR_Rf]; rw [if_neg (by omega)])), (by first | rfl | (simp only [aI_I, aI_L, aI_Rf, aL_I, aL_L, aL_Rf, aR_I, aR_L, aR_Rf]; rw [if_neg (by omega)])), (by first | rfl | (simp only [aI_I, aI_L, aI_Rf, aL_I, aL_L, aL_Rf, aR_I, aR_L, aR_Rf]; rw [if_neg (by omega)])), (by first | rfl | (simp only [aI_I, aI_L, aI_Rf, aL_I, aL_L, aL_Rf, aR_I, aR_L, aR_Rf]; rw [if_neg (by omega)])), (by first | rfl | (simp only [aI_I, aI_L, aI_Rf, aL_I, aL_L, aL_Rf, aR_I, aR_L, aR_Rf]; rw [if_neg (by omega)]))⟩) (fun _ => (by first | rfl | (simp only [aI_I, aI_L, aI_Rf, aL_I, aL_L, aL_Rf, aR_I, aR_L, aR_Rf]; rw [if_neg (by omega)]))) (fun _ => (by first | rfl | (simp only [aI_I, aI_L, aI_Rf, aL_I, aL_L, aL_Rf, aR_I, aR_L, aR_Rf]; rw [if_neg (by omega)]))) (fun _ => (by first | rfl | (simp only [aI_I, aI_L, aI_Rf, aL_I, aL_L, aL_Rf, aR_I, aR_L, aR_Rf]; rw [if_neg (by omega)]))) hj) (fun j hj _ => layM_eq (fun _ => (by first | rfl | (simp only [aI_I, aI_L, aI_Rf, aL_I, aL_L, aL_Rf, aR_I, aR_L, aR_Rf]; rw [if_neg (by omega)]))) (fun k h1 h2 _ => (by first | rfl | (simp only [aI_I, aI_L, aI_Rf, aL_I, aL_L, aL_Rf, aR_I, aR_L, aR_Rf]; rw [if_neg (by omega)]))) (fun k h1 h2 _ => (by first | rfl | (simp only [aI_I, aI_L, aI_Rf, aL_I, aL_L, aL_Rf, aR_I, aR_L, aR_Rf]; rw [if_neg (by omega)]))) hj) (fun n' hne => layD_eq (fun k h1 h2 => by have hnn : ¬ n' = n := (by omega); simp only [aI_I, aI_L, aI_Rf, aL_I, aL_L, aL_Rf, aR_I, aR_L, aR_Rf]; split <;> simp [upd, hnn, *]) (by first | rfl | (simp only [aI_I, aI_L, aI_Rf, aL_I, aL_L, aL_Rf, aR_I, aR_L, aR_Rf]; rw [if_neg (by omega)]))))
  rw [lay_D]; simp [layD, layX, aI_I, aI_L, aI_Rf, aL_I, aL_L, aL_Rf, aR_I, aR_L, aR_Rf, upd, hK]
theorem wσ_dx5_1 {AC : Nat → ClassId} {Γ : Ev} {σ : St} {n : Nat} (hK : Γ.K n = 5) (v : Int32) : wS (wσ AC Γ σ) (344 + n) (.inr (5, [.int (σ.I 6 n), .int (σ.I 7 n), .int (σ.I 8 n), .int (σ.I 9 n), .int (σ.I 10 n), .int v, .int (σ.I 12 n), .int (σ.I 13 n)])) = wσ AC Γ (σ.sI 11 n v) := by
  refine wσ_set ?_ (fun i hi => lay_eq hi (fun j _ _ => lay0_eq (by first | rfl | (simp only [aI_I, aI_L, aI_Rf, aL_I, aL_L, aL_Rf, aR_I, aR_L, aR_Rf]; rw [if_neg (by omega)])) (by first | rfl | (simp only [aI_I, aI_L, aI_Rf, aL_I, aL_L, aL_Rf, aR_I, aR_L, aR_Rf]; rw [if_neg (by omega)]))) (fun p' j hp' hj hne => layP_eq (fun _ => ⟨(by first | rfl | (simp only [aI_I, aI_L, aI_Rf, aL_I, aL_L, aL_Rf, aR_I, aR_L, aR_Rf]; rw [if_neg (by omega)])), (by first | rfl | (simp only [aI_I, aI_L, aI_Rf, aL_I, aL_L, aL_Rf, aR_I, aR_L, aR_Rf]; rw [if_neg (by omega)])), (by first | rfl | (simp only [aI_I, aI_L, aI_Rf, aL_I, aL_L, aL_Rf, aR_I, aR_L, aR_Rf]; rw [if_neg (by omega)])), (by first | rfl | (simp only [aI_I, aI_L, aI_Rf, aL_I, aL_L, aL_Rf, aR_I, aR_L, aR_Rf]; rw [if_neg (by omega)])), (by first | rfl | (simp only [aI_I, aI_L, aI_Rf, aL_I, aL_L, aL_Rf, aR_I, aR_L, aR_Rf]; rw [if_neg (by omega)])), (by first | rfl | (simp only [aI_I, aI_L, aI_Rf, aL_I, aL_L, aL_Rf, aR_I, aR_L, aR_Rf]; rw [if_neg (by omega)]))⟩) (fun _ => (by first | rfl | (simp only [aI_I, aI_L, aI_Rf, aL_I, aL_L, aL_Rf, aR_I, aR_L, aR_Rf]; rw [if_neg (by omega)]))) (fun _ => (by first | rfl | (simp only [aI_I, aI_L, aI_Rf, aL_I, aL_L, aL_Rf, aR_I, aR_L, aR_Rf]; rw [if_neg (by omega)]))) (fun _ => (by first | rfl | (simp only [aI_I, aI_L, aI_Rf, aL_I, aL_L, aL_Rf, aR_I, aR_L, aR_Rf]; rw [if_neg (by omega)]))) hj) (fun j hj _ => layM_eq (fun _ => (by first | rfl | (simp only [aI_I, aI_L, aI_Rf, aL_I, aL_L, aL_Rf, aR_I, aR_L, aR_Rf]; rw [if_neg (by omega)]))) (fun k h1 h2 _ => (by first | rfl | (simp only [aI_I, aI_L, aI_Rf, aL_I, aL_L, aL_Rf, aR_I, aR_L, aR_Rf]; rw [if_neg (by omega)]))) (fun k h1 h2 _ => (by first | rfl | (simp only [aI_I, aI_L, aI_Rf, aL_I, aL_L, aL_Rf, aR_I, aR_L, aR_Rf]; rw [if_neg (by omega)]))) hj) (fun n' hne => layD_eq (fun k h1 h2 => by have hnn : ¬ n' = n := (by omega); simp only [aI_I, aI_L, aI_Rf, aL_I, aL_L, aL_Rf, aR_I, aR_L, aR_Rf]; split <;> simp [upd, hnn, *]) (by first | rfl | (simp only [aI_I, aI_L, aI_Rf, aL_I, aL_L, aL_Rf, aR_I, aR_L, aR_Rf]; rw [if_neg (by omega)]))))
  rw [lay_D]; simp [layD, layX, aI_I, aI_L, aI_Rf, aL_I, aL_L, aL_Rf, aR_I, aR_L, aR_Rf, upd, hK]
theorem wσ_dx5_2 {AC : Nat → ClassId} {Γ : Ev} {σ : St} {n : Nat} (hK : Γ.K n = 5) (v : Int32) : wS (wσ AC Γ σ) (344 + n) (.inr (5, [.int (σ.I 6 n), .int (σ.I 7 n), .int (σ.I 8 n), .int (σ.I 9 n), .int (σ.I 10 n), .int (σ.I 11 n), .int v, .int (σ.I 13 n)])) = wσ AC Γ (σ.sI 12 n v) := by
  refine wσ_set ?_ (fun i hi => lay_eq hi (fun j _ _ => lay0_eq (by first | rfl | (simp only [aI_I, aI_L, aI_Rf, aL_I, aL_L, aL_Rf, aR_I, aR_L, aR_Rf]; rw [if_neg (by omega)])) (by first | rfl | (simp only [aI_I, aI_L, aI_Rf, aL_I, aL_L, aL_Rf, aR_I, aR_L, aR_Rf]; rw [if_neg (by omega)]))) (fun p' j hp' hj hne => layP_eq (fun _ => ⟨(by first | rfl | (simp only [aI_I, aI_L, aI_Rf, aL_I, aL_L, aL_Rf, aR_I, aR_L, aR_Rf]; rw [if_neg (by omega)])), (by first | rfl | (simp only [aI_I, aI_L, aI_Rf, aL_I, aL_L, aL_Rf, aR_I, aR_L, aR_Rf]; rw [if_neg (by omega)])), (by first | rfl | (simp only [aI_I, aI_L, aI_Rf, aL_I, aL_L, aL_Rf, aR_I, aR_L, aR_Rf]; rw [if_neg (by omega)])), (by first | rfl | (simp only [aI_I, aI_L, aI_Rf, aL_I, aL_L, aL_Rf, aR_I, aR_L, aR_Rf]; rw [if_neg (by omega)])), (by first | rfl | (simp only [aI_I, aI_L, aI_Rf, aL_I, aL_L, aL_Rf, aR_I, aR_L, aR_Rf]; rw [if_neg (by omega)])), (by first | rfl | (simp only [aI_I, aI_L, aI_Rf, aL_I, aL_L, aL_Rf, aR_I, aR_L, aR_Rf]; rw [if_neg (by omega)]))⟩) (fun _ => (by first | rfl | (simp only [aI_I, aI_L, aI_Rf, aL_I, aL_L, aL_Rf, aR_I, aR_L, aR_Rf]; rw [if_neg (by omega)]))) (fun _ => (by first | rfl | (simp only [aI_I, aI_L, aI_Rf, aL_I, aL_L, aL_Rf, aR_I, aR_L, aR_Rf]; rw [if_neg (by omega)]))) (fun _ => (by first | rfl | (simp only [aI_I, aI_L, aI_Rf, aL_I, aL_L, aL_Rf, aR_I, aR_L, aR_Rf]; rw [if_neg (by omega)]))) hj) (fun j hj _ => layM_eq (fun _ => (by first | rfl | (simp only [aI_I, aI_L, aI_Rf, aL_I, aL_L, aL_Rf, aR_I, aR_L, aR_Rf]; rw [if_neg (by omega)]))) (fun k h1 h2 _ => (by first | rfl | (simp only [aI_I, aI_L, aI_Rf, aL_I, aL_L, aL_Rf, aR_I, aR_L, aR_Rf]; rw [if_neg (by omega)]))) (fun k h1 h2 _ => (by first | rfl | (simp only [aI_I, aI_L, aI_Rf, aL_I, aL_L, aL_Rf, aR_I, aR_L, aR_Rf]; rw [if_neg (by omega)]))) hj) (fun n' hne => layD_eq (fun k h1 h2 => by have hnn : ¬ n' = n := (by omega); simp only [aI_I, aI_L, aI_Rf, aL_I, aL_L, aL_Rf, aR_I, aR_L, aR_Rf]; split <;> simp [upd, hnn, *]) (by first | rfl | (simp only [aI_I, aI_L, aI_Rf, aL_I, aL_L, aL_Rf, aR_I, aR_L, aR_Rf]; rw [if_neg (by omega)]))))
  rw [lay_D]; simp [layD, layX, aI_I, aI_L, aI_Rf, aL_I, aL_L, aL_Rf, aR_I, aR_L, aR_Rf, upd, hK]
theorem wσ_dx5_3 {AC : Nat → ClassId} {Γ : Ev} {σ : St} {n : Nat} (hK : Γ.K n = 5) (v : Int32) : wS (wσ AC Γ σ) (344 + n) (.inr (5, [.int (σ.I 6 n), .int (σ.I 7 n), .int (σ.I 8 n), .int (σ.I 9 n), .int (σ.I 10 n), .int (σ.I 11 n), .int (σ.I 12 n), .int v])) = wσ AC Γ (σ.sI 13 n v) := by
  refine wσ_set ?_ (fun i hi => lay_eq hi (fun j _ _ => lay0_eq (by first | rfl | (simp only [aI_I, aI_L, aI_Rf, aL_I, aL_L, aL_Rf, aR_I, aR_L, aR_Rf]; rw [if_neg (by omega)])) (by first | rfl | (simp only [aI_I, aI_L, aI_Rf, aL_I, aL_L, aL_Rf, aR_I, aR_L, aR_Rf]; rw [if_neg (by omega)]))) (fun p' j hp' hj hne => layP_eq (fun _ => ⟨(by first | rfl | (simp only [aI_I, aI_L, aI_Rf, aL_I, aL_L, aL_Rf, aR_I, aR_L, aR_Rf]; rw [if_neg (by omega)])), (by first | rfl | (simp only [aI_I, aI_L, aI_Rf, aL_I, aL_L, aL_Rf, aR_I, aR_L, aR_Rf]; rw [if_neg (by omega)])), (by first | rfl | (simp only [aI_I, aI_L, aI_Rf, aL_I, aL_L, aL_Rf, aR_I, aR_L, aR_Rf]; rw [if_neg (by omega)])), (by first | rfl | (simp only [aI_I, aI_L, aI_Rf, aL_I, aL_L, aL_Rf, aR_I, aR_L, aR_Rf]; rw [if_neg (by omega)])), (by first | rfl | (simp only [aI_I, aI_L, aI_Rf, aL_I, aL_L, aL_Rf, aR_I, aR_L, aR_Rf]; rw [if_neg (by omega)])), (by first | rfl | (simp only [aI_I, aI_L, aI_Rf, aL_I, aL_L, aL_Rf, aR_I, aR_L, aR_Rf]; rw [if_neg (by omega)]))⟩) (fun _ => (by first | rfl | (simp only [aI_I, aI_L, aI_Rf, aL_I, aL_L, aL_Rf, aR_I, aR_L, aR_Rf]; rw [if_neg (by omega)]))) (fun _ => (by first | rfl | (simp only [aI_I, aI_L, aI_Rf, aL_I, aL_L, aL_Rf, aR_I, aR_L, aR_Rf]; rw [if_neg (by omega)]))) (fun _ => (by first | rfl | (simp only [aI_I, aI_L, aI_Rf, aL_I, aL_L, aL_Rf, aR_I, aR_L, aR_Rf]; rw [if_neg (by omega)]))) hj) (fun j hj _ => layM_eq (fun _ => (by first | rfl | (simp only [aI_I, aI_L, aI_Rf, aL_I, aL_L, aL_Rf, aR_I, aR_L, aR_Rf]; rw [if_neg (by omega)]))) (fun k h1 h2 _ => (by first | rfl | (simp only [aI_I, aI_L, aI_Rf, aL_I, aL_L, aL_Rf, aR_I, aR_L, aR_Rf]; rw [if_neg (by omega)]))) (fun k h1 h2 _ => (by first | rfl | (simp only [aI_I, aI_L, aI_Rf, aL_I, aL_L, aL_Rf, aR_I, aR_L, aR_Rf]; rw [if_neg (by omega)]))) hj) (fun n' hne => layD_eq (fun k h1 h2 => by have hnn : ¬ n' = n := (by omega); simp only [aI_I, aI_L, aI_Rf, aL_I, aL_L, aL_Rf, aR_I, aR_L, aR_Rf]; split <;> simp [upd, hnn, *]) (by first | rfl | (simp only [aI_I, aI_L, aI_Rf, aL_I, aL_L, aL_Rf, aR_I, aR_L, aR_Rf]; rw [if_neg (by omega)]))))
  rw [lay_D]; simp [layD, layX, aI_I, aI_L, aI_Rf, aL_I, aL_L, aL_Rf, aR_I, aR_L, aR_Rf, upd, hK]
theorem lay_D6 {AC : Nat → ClassId} {Γ : Ev} {σ : St} {n : Nat} (hK : Γ.K n = 6) : lay AC Γ σ (344 + n) = .inr (6, [.int (σ.I 6 n), .int (σ.I 7 n), .int (σ.I 8 n), .int (σ.I 9 n), .int (σ.I 10 n), .int (σ.I 11 n)]) := by
  rw [lay_D]; simp [layD, layX, hK]
theorem wσ_dnum6 {AC : Nat → ClassId} {Γ : Ev} {σ : St} {n : Nat} (hK : Γ.K n = 6) (v : Int32) : wS (wσ AC Γ σ) (344 + n) (.inr (6, [.int v, .int (σ.I 7 n), .int (σ.I 8 n), .int (σ.I 9 n), .int (σ.I 10 n), .int (σ.I 11 n)])) = wσ AC Γ (σ.sI 6 n v) := by
  refine wσ_set ?_ (fun i hi => lay_eq hi (fun j _ _ => lay0_eq (by first | rfl | (simp only [aI_I, aI_L, aI_Rf, aL_I, aL_L, aL_Rf, aR_I, aR_L, aR_Rf]; rw [if_neg (by omega)])) (by first | rfl | (simp only [aI_I, aI_L, aI_Rf, aL_I, aL_L, aL_Rf, aR_I, aR_L, aR_Rf]; rw [if_neg (by omega)]))) (fun p' j hp' hj hne => layP_eq (fun _ => ⟨(by first | rfl | (simp only [aI_I, aI_L, aI_Rf, aL_I, aL_L, aL_Rf, aR_I, aR_L, aR_Rf]; rw [if_neg (by omega)])), (by first | rfl | (simp only [aI_I, aI_L, aI_Rf, aL_I, aL_L, aL_Rf, aR_I, aR_L, aR_Rf]; rw [if_neg (by omega)])), (by first | rfl | (simp only [aI_I, aI_L, aI_Rf, aL_I, aL_L, aL_Rf, aR_I, aR_L, aR_Rf]; rw [if_neg (by omega)])), (by first | rfl | (simp only [aI_I, aI_L, aI_Rf, aL_I, aL_L, aL_Rf, aR_I, aR_L, aR_Rf]; rw [if_neg (by omega)])), (by first | rfl | (simp only [aI_I, aI_L, aI_Rf, aL_I, aL_L, aL_Rf, aR_I, aR_L, aR_Rf]; rw [if_neg (by omega)])), (by first | rfl | (simp only [aI_I, aI_L, aI_Rf, aL_I, aL_L, aL_Rf, aR_I, aR_L, aR_Rf]; rw [if_neg (by omega)]))⟩) (fun _ => (by first | rfl | (simp only [aI_I, aI_L, aI_Rf, aL_I, aL_L, aL_Rf, aR_I, aR_L, aR_Rf]; rw [if_neg (by omega)]))) (fun _ => (by first | rfl | (simp only [aI_I, aI_L, aI_Rf, aL_I, aL_L, aL_Rf, aR_I, aR_L, aR_Rf]; rw [if_neg (by omega)]))) (fun _ => (by first | rfl | (simp only [aI_I, aI_L, aI_Rf, aL_I, aL_L, aL_Rf, aR_I, aR_L, aR_Rf]; rw [if_neg (by omega)]))) hj) (fun j hj _ => layM_eq (fun _ => (by first | rfl | (simp only [aI_I, aI_L, aI_Rf, aL_I, aL_L, aL_Rf, aR_I, aR_L, aR_Rf]; rw [if_neg (by omega)]))) (fun k h1 h2 _ => (by first | rfl | (simp only [aI_I, aI_L, aI_Rf, aL_I, aL_L, aL_Rf, aR_I, aR_L, aR_Rf]; rw [if_neg (by omega)]))) (fun k h1 h2 _ => (by first | rfl | (simp only [aI_I, aI_L, aI_Rf, aL_I, aL_L, aL_Rf, aR_I, aR_L, aR_Rf]; rw [if_neg (by omega)]))) hj) (fun n' hne => layD_eq (fun k h1 h2 => by have hnn : ¬ n' = n := (by omega); simp only [aI_I, aI_L, aI_Rf, aL_I, aL_L, aL_Rf, aR_I, aR_L, aR_Rf]; split <;> simp [upd, hnn, *]) (by first | rfl | (simp only [aI_I, aI_L, aI_Rf, aL_I, aL_L, aL_Rf, aR_I, aR_L, aR_Rf]; rw [if_neg (by omega)]))))
  rw [lay_D]; simp [layD, layX, aI_I, aI_L, aI_Rf, aL_I, aL_L, aL_Rf, aR_I, aR_L, aR_Rf, upd, hK]
theorem wσ_drec6 {AC : Nat → ClassId} {Γ : Ev} {σ : St} {n : Nat} (hK : Γ.K n = 6) (v : Int32) : wS (wσ AC Γ σ) (344 + n) (.inr (6, [.int (σ.I 6 n), .int v, .int (σ.I 8 n), .int (σ.I 9 n), .int (σ.I 10 n), .int (σ.I 11 n)])) = wσ AC Γ (σ.sI 7 n v) := by
  refine wσ_set ?_ (fun i hi => lay_eq hi (fun j _ _ => lay0_eq (by first | rfl | (simp only [aI_I, aI_L, aI_Rf, aL_I, aL_L, aL_Rf, aR_I, aR_L, aR_Rf]; rw [if_neg (by omega)])) (by first | rfl | (simp only [aI_I, aI_L, aI_Rf, aL_I, aL_L, aL_Rf, aR_I, aR_L, aR_Rf]; rw [if_neg (by omega)]))) (fun p' j hp' hj hne => layP_eq (fun _ => ⟨(by first | rfl | (simp only [aI_I, aI_L, aI_Rf, aL_I, aL_L, aL_Rf, aR_I, aR_L, aR_Rf]; rw [if_neg (by omega)])), (by first | rfl | (simp only [aI_I, aI_L, aI_Rf, aL_I, aL_L, aL_Rf, aR_I, aR_L, aR_Rf]; rw [if_neg (by omega)])), (by first | rfl | (simp only [aI_I, aI_L, aI_Rf, aL_I, aL_L, aL_Rf, aR_I, aR_L, aR_Rf]; rw [if_neg (by omega)])), (by first | rfl | (simp only [aI_I, aI_L, aI_Rf, aL_I, aL_L, aL_Rf, aR_I, aR_L, aR_Rf]; rw [if_neg (by omega)])), (by first | rfl | (simp only [aI_I, aI_L, aI_Rf, aL_I, aL_L, aL_Rf, aR_I, aR_L, aR_Rf]; rw [if_neg (by omega)])), (by first | rfl | (simp only [aI_I, aI_L, aI_Rf, aL_I, aL_L, aL_Rf, aR_I, aR_L, aR_Rf]; rw [if_neg (by omega)]))⟩) (fun _ => (by first | rfl | (simp only [aI_I, aI_L, aI_Rf, aL_I, aL_L, aL_Rf, aR_I, aR_L, aR_Rf]; rw [if_neg (by omega)]))) (fun _ => (by first | rfl | (simp only [aI_I, aI_L, aI_Rf, aL_I, aL_L, aL_Rf, aR_I, aR_L, aR_Rf]; rw [if_neg (by omega)]))) (fun _ => (by first | rfl | (simp only [aI_I, aI_L, aI_Rf, aL_I, aL_L, aL_Rf, aR_I, aR_L, aR_Rf]; rw [if_neg (by omega)]))) hj) (fun j hj _ => layM_eq (fun _ => (by first | rfl | (simp only [aI_I, aI_L, aI_Rf, aL_I, aL_L, aL_Rf, aR_I, aR_L, aR_Rf]; rw [if_neg (by omega)]))) (fun k h1 h2 _ => (by first | rfl | (simp only [aI_I, aI_L, aI_Rf, aL_I, aL_L, aL_Rf, aR_I, aR_L, aR_Rf]; rw [if_neg (by omega)]))) (fun k h1 h2 _ => (by first | rfl | (simp only [aI_I, aI_L, aI_Rf, aL_I, aL_L, aL_Rf, aR_I, aR_L, aR_Rf]; rw [if_neg (by omega)]))) hj) (fun n' hne => layD_eq (fun k h1 h2 => by have hnn : ¬ n' = n := (by omega); simp only [aI_I, aI_L, aI_Rf, aL_I, aL_L, aL_Rf, aR_I, aR_L, aR_Rf]; split <;> simp [upd, hnn, *]) (by first | rfl | (simp only [aI_I, aI_L, aI_Rf, aL_I, aL_L, aL_Rf, aR_I, aR_L, aR_Rf]; rw [if_neg (by omega)]))))
  rw [lay_D]; simp [layD, layX, aI_I, aI_L, aI_Rf, aL_I, aL_L, aL_Rf, aR_I, aR_L, aR_Rf, upd, hK]
theorem wσ_dfact6 {AC : Nat → ClassId} {Γ : Ev} {σ : St} {n : Nat} (hK : Γ.K n = 6) (v : Int32) : wS (wσ AC Γ σ) (344 + n) (.inr (6, [.int (σ.I 6 n), .int (σ.I 7 n), .int v, .int (σ.I 9 n), .int (σ.I 10 n), .int (σ.I 11 n)])) = wσ AC Γ (σ.sI 8 n v) := by
  refine wσ_set ?_ (fun i hi => lay_eq hi (fun j _ _ => lay0_eq (by first | rfl | (simp only [aI_I, aI_L, aI_Rf, aL_I, aL_L, aL_Rf, aR_I, aR_L, aR_Rf]; rw [if_neg (by omega)])) (by first | rfl | (simp only [aI_I, aI_L, aI_Rf, aL_I, aL_L, aL_Rf, aR_I, aR_L, aR_Rf]; rw [if_neg (by omega)]))) (fun p' j hp' hj hne => layP_eq (fun _ => ⟨(by first | rfl | (simp only [aI_I, aI_L, aI_Rf, aL_I, aL_L, aL_Rf, aR_I, aR_L, aR_Rf]; rw [if_neg (by omega)])), (by first | rfl | (simp only [aI_I, aI_L, aI_Rf, aL_I, aL_L, aL_Rf, aR_I, aR_L, aR_Rf]; rw [if_neg (by omega)])), (by first | rfl | (simp only [aI_I, aI_L, aI_Rf, aL_I, aL_L, aL_Rf, aR_I, aR_L, aR_Rf]; rw [if_neg (by omega)])), (by first | rfl | (simp only [aI_I, aI_L, aI_Rf, aL_I, aL_L, aL_Rf, aR_I, aR_L, aR_Rf]; rw [if_neg (by omega)])), (by first | rfl | (simp only [aI_I, aI_L, aI_Rf, aL_I, aL_L, aL_Rf, aR_I, aR_L, aR_Rf]; rw [if_neg (by omega)])), (by first | rfl | (simp only [aI_I, aI_L, aI_Rf, aL_I, aL_L, aL_Rf, aR_I, aR_L, aR_Rf]; rw [if_neg (by omega)]))⟩) (fun _ => (by first | rfl | (simp only [aI_I, aI_L, aI_Rf, aL_I, aL_L, aL_Rf, aR_I, aR_L, aR_Rf]; rw [if_neg (by omega)]))) (fun _ => (by first | rfl | (simp only [aI_I, aI_L, aI_Rf, aL_I, aL_L, aL_Rf, aR_I, aR_L, aR_Rf]; rw [if_neg (by omega)]))) (fun _ => (by first | rfl | (simp only [aI_I, aI_L, aI_Rf, aL_I, aL_L, aL_Rf, aR_I, aR_L, aR_Rf]; rw [if_neg (by omega)]))) hj) (fun j hj _ => layM_eq (fun _ => (by first | rfl | (simp only [aI_I, aI_L, aI_Rf, aL_I, aL_L, aL_Rf, aR_I, aR_L, aR_Rf]; rw [if_neg (by omega)]))) (fun k h1 h2 _ => (by first | rfl | (simp only [aI_I, aI_L, aI_Rf, aL_I, aL_L, aL_Rf, aR_I, aR_L, aR_Rf]; rw [if_neg (by omega)]))) (fun k h1 h2 _ => (by first | rfl | (simp only [aI_I, aI_L, aI_Rf, aL_I, aL_L, aL_Rf, aR_I, aR_L, aR_Rf]; rw [if_neg (by omega)]))) hj) (fun n' hne => layD_eq (fun k h1 h2 => by have hnn : ¬ n' = n := (by omega); simp only [aI_I, aI_L, aI_Rf, aL_I, aL_L, aL_Rf, aR_I, aR_L, aR_Rf]; split <;> simp [upd, hnn, *]) (by first | rfl | (simp only [aI_I, aI_L, aI_Rf, aL_I, aL_L, aL_Rf, aR_I, aR_L, aR_Rf]; rw [if_neg (by omega)]))))
  rw [lay_D]; simp [layD, layX, aI_I, aI_L, aI_Rf, aL_I, aL_L, aL_Rf, aR_I, aR_L, aR_Rf, upd, hK]
theorem wσ_dout6 {AC : Nat → ClassId} {Γ : Ev} {σ : St} {n : Nat} (hK : Γ.K n = 6) (v : Int32) : wS (wσ AC Γ σ) (344 + n) (.inr (6, [.int (σ.I 6 n), .int (σ.I 7 n), .int (σ.I 8 n), .int v, .int (σ.I 10 n), .int (σ.I 11 n)])) = wσ AC Γ (σ.sI 9 n v) := by
  refine wσ_set ?_ (fun i hi => lay_eq hi (fun j _ _ => lay0_eq (by first | rfl | (simp only [aI_I, aI_L, aI_Rf, aL_I, aL_L, aL_Rf, aR_I, aR_L, aR_Rf]; rw [if_neg (by omega)])) (by first | rfl | (simp only [aI_I, aI_L, aI_Rf, aL_I, aL_L, aL_Rf, aR_I, aR_L, aR_Rf]; rw [if_neg (by omega)]))) (fun p' j hp' hj hne => layP_eq (fun _ => ⟨(by first | rfl | (simp only [aI_I, aI_L, aI_Rf, aL_I, aL_L, aL_Rf, aR_I, aR_L, aR_Rf]; rw [if_neg (by omega)])), (by first | rfl | (simp only [aI_I, aI_L, aI_Rf, aL_I, aL_L, aL_Rf, aR_I, aR_L, aR_Rf]; rw [if_neg (by omega)])), (by first | rfl | (simp only [aI_I, aI_L, aI_Rf, aL_I, aL_L, aL_Rf, aR_I, aR_L, aR_Rf]; rw [if_neg (by omega)])), (by first | rfl | (simp only [aI_I, aI_L, aI_Rf, aL_I, aL_L, aL_Rf, aR_I, aR_L, aR_Rf]; rw [if_neg (by omega)])), (by first | rfl | (simp only [aI_I, aI_L, aI_Rf, aL_I, aL_L, aL_Rf, aR_I, aR_L, aR_Rf]; rw [if_neg (by omega)])), (by first | rfl | (simp only [aI_I, aI_L, aI_Rf, aL_I, aL_L, aL_Rf, aR_I, aR_L, aR_Rf]; rw [if_neg (by omega)]))⟩) (fun _ => (by first | rfl | (simp only [aI_I, aI_L, aI_Rf, aL_I, aL_L, aL_Rf, aR_I, aR_L, aR_Rf]; rw [if_neg (by omega)]))) (fun _ => (by first | rfl | (simp only [aI_I, aI_L, aI_Rf, aL_I, aL_L, aL_Rf, aR_I, aR_L, aR_Rf]; rw [if_neg (by omega)]))) (fun _ => (by first | rfl | (simp only [aI_I, aI_L, aI_Rf, aL_I, aL_L, aL_Rf, aR_I, aR_L, aR_Rf]; rw [if_neg (by omega)]))) hj) (fun j hj _ => layM_eq (fun _ => (by first | rfl | (simp only [aI_I, aI_L, aI_Rf, aL_I, aL_L, aL_Rf, aR_I, aR_L, aR_Rf]; rw [if_neg (by omega)]))) (fun k h1 h2 _ => (by first | rfl | (simp only [aI_I, aI_L, aI_Rf, aL_I, aL_L, aL_Rf, aR_I, aR_L, aR_Rf]; rw [if_neg (by omega)]))) (fun k h1 h2 _ => (by first | rfl | (simp only [aI_I, aI_L, aI_Rf, aL_I, aL_L, aL_Rf, aR_I, aR_L, aR_Rf]; rw [if_neg (by omega)]))) hj) (fun n' hne => layD_eq (fun k h1 h2 => by have hnn : ¬ n' = n := (by omega); simp only [aI_I, aI_L, aI_Rf, aL_I, aL_L, aL_Rf, aR_I, aR_L, aR_Rf]; split <;> simp [upd, hnn, *]) (by first | rfl | (simp only [aI_I, aI_L, aI_Rf, aL_I, aL_L, aL_Rf, aR_I, aR_L, aR_Rf]; rw [if_neg (by omega)]))))
  rw [lay_D]; simp [layD, layX, aI_I, aI_L, aI_Rf, aL_I, aL_L, aL_Rf, aR_I, aR_L, aR_Rf, upd, hK]
theorem wσ_dx6_0 {AC : Nat → ClassId} {Γ : Ev} {σ : St} {n : Nat} (hK : Γ.K n = 6) (v : Int32) : wS (wσ AC Γ σ) (344 + n) (.inr (6, [.int (σ.I 6 n), .int (σ.I 7 n), .int (σ.I 8 n), .int (σ.I 9 n), .int v, .int (σ.I 11 n)])) = wσ AC Γ (σ.sI 10 n v) := by
  refine wσ_set ?_ (fun i hi => lay_eq hi (fun j _ _ => lay0_eq (by first | rfl | (simp only [aI_I, aI_L, aI_Rf, aL_I, aL_L, aL_Rf, aR_I, aR_L, aR_Rf]; rw [if_neg (by omega)])) (by first | rfl | (simp only [aI_I, aI_L, aI_Rf, aL_I, aL_L, aL_Rf, aR_I, aR_L, aR_Rf]; rw [if_neg (by omega)]))) (fun p' j hp' hj hne => layP_eq (fun _ => ⟨(by first | rfl | (simp only [aI_I, aI_L, aI_Rf, aL_I, aL_L, aL_Rf, aR_I, aR_L, aR_Rf]; rw [if_neg (by omega)])), (by first | rfl | (simp only [aI_I, aI_L, aI_Rf, aL_I, aL_L, aL_Rf, aR_I, aR_L, aR_Rf]; rw [if_neg (by omega)])), (by first | rfl | (simp only [aI_I, aI_L, aI_Rf, aL_I, aL_L, aL_Rf, aR_I, aR_L, aR_Rf]; rw [if_neg (by omega)])), (by first | rfl | (simp only [aI_I, aI_L, aI_Rf, aL_I, aL_L, aL_Rf, aR_I, aR_L, aR_Rf]; rw [if_neg (by omega)])), (by first | rfl | (simp only [aI_I, aI_L, aI_Rf, aL_I, aL_L, aL_Rf, aR_I, aR_L, aR_Rf]; rw [if_neg (by omega)])), (by first | rfl | (simp only [aI_I, aI_L, aI_Rf, aL_I, aL_L, aL_Rf, aR_I, aR_L, aR_Rf]; rw [if_neg (by omega)]))⟩) (fun _ => (by first | rfl | (simp only [aI_I, aI_L, aI_Rf, aL_I, aL_L, aL_Rf, aR_I, aR_L, aR_Rf]; rw [if_neg (by omega)]))) (fun _ => (by first | rfl | (simp only [aI_I, aI_L, aI_Rf, aL_I, aL_L, aL_Rf, aR_I, aR_L, aR_Rf]; rw [if_neg (by omega)]))) (fun _ => (by first | rfl | (simp only [aI_I, aI_L, aI_Rf, aL_I, aL_L, aL_Rf, aR_I, aR_L, aR_Rf]; rw [if_neg (by omega)]))) hj) (fun j hj _ => layM_eq (fun _ => (by first | rfl | (simp only [aI_I, aI_L, aI_Rf, aL_I, aL_L, aL_Rf, aR_I, aR_L, aR_Rf]; rw [if_neg (by omega)]))) (fun k h1 h2 _ => (by first | rfl | (simp only [aI_I, aI_L, aI_Rf, aL_I, aL_L, aL_Rf, aR_I, aR_L, aR_Rf]; rw [if_neg (by omega)]))) (fun k h1 h2 _ => (by first | rfl | (simp only [aI_I, aI_L, aI_Rf, aL_I, aL_L, aL_Rf, aR_I, aR_L, aR_Rf]; rw [if_neg (by omega)]))) hj) (fun n' hne => layD_eq (fun k h1 h2 => by have hnn : ¬ n' = n := (by omega); simp only [aI_I, aI_L, aI_Rf, aL_I, aL_L, aL_Rf, aR_I, aR_L, aR_Rf]; split <;> simp [upd, hnn, *]) (by first | rfl | (simp only [aI_I, aI_L, aI_Rf, aL_I, aL_L, aL_Rf, aR_I, aR_L, aR_Rf]; rw [if_neg (by omega)]))))
  rw [lay_D]; simp [layD, layX, aI_I, aI_L, aI_Rf, aL_I, aL_L, aL_Rf, aR_I, aR_L, aR_Rf, upd, hK]
theorem wσ_dx6_1 {AC : Nat → ClassId} {Γ : Ev} {σ : St} {n : Nat} (hK : Γ.K n = 6) (v : Int32) : wS (wσ AC Γ σ) (344 + n) (.inr (6, [.int (σ.I 6 n), .int (σ.I 7 n), .int (σ.I 8 n), .int (σ.I 9 n), .int (σ.I 10 n), .int v])) = wσ AC Γ (σ.sI 11 n v) := by
  refine wσ_set ?_ (fun i hi => lay_eq hi (fun j _ _ => lay0_eq (by first | rfl | (simp only [aI_I, aI_L, aI_Rf, aL_I, aL_L, aL_Rf, aR_I, aR_L, aR_Rf]; rw [if_neg (by omega)])) (by first | rfl | (simp only [aI_I, aI_L, aI_Rf, aL_I, aL_L, aL_Rf, aR_I, aR_L, aR_Rf]; rw [if_neg (by omega)]))) (fun p' j hp' hj hne => layP_eq (fun _ => ⟨(by first | rfl | (simp only [aI_I, aI_L, aI_Rf, aL_I, aL_L, aL_Rf, aR_I, aR_L, aR_Rf]; rw [if_neg (by omega)])), (by first | rfl | (simp only [aI_I, aI_L, aI_Rf, aL_I, aL_L, aL_Rf, aR_I, aR_L, aR_Rf]; rw [if_neg (by omega)])), (by first | rfl | (simp only [aI_I, aI_L, aI_Rf, aL_I, aL_L, aL_Rf, aR_I, aR_L, aR_Rf]; rw [if_neg (by omega)])), (by first | rfl | (simp only [aI_I, aI_L, aI_Rf, aL_I, aL_L, aL_Rf, aR_I, aR_L, aR_Rf]; rw [if_neg (by omega)])), (by first | rfl | (simp only [aI_I, aI_L, aI_Rf, aL_I, aL_L, aL_Rf, aR_I, aR_L, aR_Rf]; rw [if_neg (by omega)])), (by first | rfl | (simp only [aI_I, aI_L, aI_Rf, aL_I, aL_L, aL_Rf, aR_I, aR_L, aR_Rf]; rw [if_neg (by omega)]))⟩) (fun _ => (by first | rfl | (simp only [aI_I, aI_L, aI_Rf, aL_I, aL_L, aL_Rf, aR_I, aR_L, aR_Rf]; rw [if_neg (by omega)]))) (fun _ => (by first | rfl | (simp only [aI_I, aI_L, aI_Rf, aL_I, aL_L, aL_Rf, aR_I, aR_L, aR_Rf]; rw [if_neg (by omega)]))) (fun _ => (by first | rfl | (simp only [aI_I, aI_L, aI_Rf, aL_I, aL_L, aL_Rf, aR_I, aR_L, aR_Rf]; rw [if_neg (by omega)]))) hj) (fun j hj _ => layM_eq (fun _ => (by first | rfl | (simp only [aI_I, aI_L, aI_Rf, aL_I, aL_L, aL_Rf, aR_I, aR_L, aR_Rf]; rw [if_neg (by omega)]))) (fun k h1 h2 _ => (by first | rfl | (simp only [aI_I, aI_L, aI_Rf, aL_I, aL_L, aL_Rf, aR_I, aR_L, aR_Rf]; rw [if_neg (by omega)]))) (fun k h1 h2 _ => (by first | rfl | (simp only [aI_I, aI_L, aI_Rf, aL_I, aL_L, aL_Rf, aR_I, aR_L, aR_Rf]; rw [if_neg (by omega)]))) hj) (fun n' hne => layD_eq (fun k h1 h2 => by have hnn : ¬ n' = n := (by omega); simp only [aI_I, aI_L, aI_Rf, aL_I, aL_L, aL_Rf, aR_I, aR_L, aR_Rf]; split <;> simp [upd, hnn, *]) (by first | rfl | (simp only [aI_I, aI_L, aI_Rf, aL_I, aL_L, aL_Rf, aR_I, aR_L, aR_Rf]; rw [if_neg (by omega)]))))
  rw [lay_D]; simp [layD, layX, aI_I, aI_L, aI_Rf, aL_I, aL_L, aL_Rf, aR_I, aR_L, aR_Rf, upd, hK]
theorem lay_D7 {AC : Nat → ClassId} {Γ : Ev} {σ : St} {n : Nat} (hK : Γ.K n = 7) : lay AC Γ σ (344 + n) = .inr (7, [.int (σ.I 6 n), .int (σ.I 7 n), .int (σ.I 8 n), .int (σ.I 9 n), .int (σ.I 10 n), .int (σ.I 11 n)]) := by
  rw [lay_D]; simp [layD, layX, hK]
theorem wσ_dnum7 {AC : Nat → ClassId} {Γ : Ev} {σ : St} {n : Nat} (hK : Γ.K n = 7) (v : Int32) : wS (wσ AC Γ σ) (344 + n) (.inr (7, [.int v, .int (σ.I 7 n), .int (σ.I 8 n), .int (σ.I 9 n), .int (σ.I 10 n), .int (σ.I 11 n)])) = wσ AC Γ (σ.sI 6 n v) := by
  refine wσ_set ?_ (fun i hi => lay_eq hi (fun j _ _ => lay0_eq (by first | rfl | (simp only [aI_I, aI_L, aI_Rf, aL_I, aL_L, aL_Rf, aR_I, aR_L, aR_Rf]; rw [if_neg (by omega)])) (by first | rfl | (simp only [aI_I, aI_L, aI_Rf, aL_I, aL_L, aL_Rf, aR_I, aR_L, aR_Rf]; rw [if_neg (by omega)]))) (fun p' j hp' hj hne => layP_eq (fun _ => ⟨(by first | rfl | (simp only [aI_I, aI_L, aI_Rf, aL_I, aL_L, aL_Rf, aR_I, aR_L, aR_Rf]; rw [if_neg (by omega)])), (by first | rfl | (simp only [aI_I, aI_L, aI_Rf, aL_I, aL_L, aL_Rf, aR_I, aR_L, aR_Rf]; rw [if_neg (by omega)])), (by first | rfl | (simp only [aI_I, aI_L, aI_Rf, aL_I, aL_L, aL_Rf, aR_I, aR_L, aR_Rf]; rw [if_neg (by omega)])), (by first | rfl | (simp only [aI_I, aI_L, aI_Rf, aL_I, aL_L, aL_Rf, aR_I, aR_L, aR_Rf]; rw [if_neg (by omega)])), (by first | rfl | (simp only [aI_I, aI_L, aI_Rf, aL_I, aL_L, aL_Rf, aR_I, aR_L, aR_Rf]; rw [if_neg (by omega)])), (by first | rfl | (simp only [aI_I, aI_L, aI_Rf, aL_I, aL_L, aL_Rf, aR_I, aR_L, aR_Rf]; rw [if_neg (by omega)]))⟩) (fun _ => (by first | rfl | (simp only [aI_I, aI_L, aI_Rf, aL_I, aL_L, aL_Rf, aR_I, aR_L, aR_Rf]; rw [if_neg (by omega)]))) (fun _ => (by first | rfl | (simp only [aI_I, aI_L, aI_Rf, aL_I, aL_L, aL_Rf, aR_I, aR_L, aR_Rf]; rw [if_neg (by omega)]))) (fun _ => (by first | rfl | (simp only [aI_I, aI_L, aI_Rf, aL_I, aL_L, aL_Rf, aR_I, aR_L, aR_Rf]; rw [if_neg (by omega)]))) hj) (fun j hj _ => layM_eq (fun _ => (by first | rfl | (simp only [aI_I, aI_L, aI_Rf, aL_I, aL_L, aL_Rf, aR_I, aR_L, aR_Rf]; rw [if_neg (by omega)]))) (fun k h1 h2 _ => (by first | rfl | (simp only [aI_I, aI_L, aI_Rf, aL_I, aL_L, aL_Rf, aR_I, aR_L, aR_Rf]; rw [if_neg (by omega)]))) (fun k h1 h2 _ => (by first | rfl | (simp only [aI_I, aI_L, aI_Rf, aL_I, aL_L, aL_Rf, aR_I, aR_L, aR_Rf]; rw [if_neg (by omega)]))) hj) (fun n' hne => layD_eq (fun k h1 h2 => by have hnn : ¬ n' = n := (by omega); simp only [aI_I, aI_L, aI_Rf, aL_I, aL_L, aL_Rf, aR_I, aR_L, aR_Rf]; split <;> simp [upd, hnn, *]) (by first | rfl | (simp only [aI_I, aI_L, aI_Rf, aL_I, aL_L, aL_Rf, aR_I, aR_L, aR_Rf]; rw [if_neg (by omega)]))))
  rw [lay_D]; simp [layD, layX, aI_I, aI_L, aI_Rf, aL_I, aL_L, aL_Rf, aR_I, aR_L, aR_Rf, upd, hK]
theorem wσ_drec7 {AC : Nat → ClassId} {Γ : Ev} {σ : St} {n : Nat} (hK : Γ.K n = 7) (v : Int32) : wS (wσ AC Γ σ) (344 + n) (.inr (7, [.int (σ.I 6 n), .int v, .int (σ.I 8 n), .int (σ.I 9 n), .int (σ.I 10 n), .int (σ.I 11 n)])) = wσ AC Γ (σ.sI 7 n v) := by
  refine wσ_set ?_ (fun i hi => lay_eq hi (fun j _ _ => lay0_eq (by first | rfl | (simp only [aI_I, aI_L, aI_Rf, aL_I, aL_L, aL_Rf, aR_I, aR_L, aR_Rf]; rw [if_neg (by omega)])) (by first | rfl | (simp only [aI_I, aI_L, aI_Rf, aL_I, aL_L, aL_Rf, aR_I, aR_L, aR_Rf]; rw [if_neg (by omega)]))) (fun p' j hp' hj hne => layP_eq (fun _ => ⟨(by first | rfl | (simp only [aI_I, aI_L, aI_Rf, aL_I, aL_L, aL_Rf, aR_I, aR_L, aR_Rf]; rw [if_neg (by omega)])), (by first | rfl | (simp only [aI_I, aI_L, aI_Rf, aL_I, aL_L, aL_Rf, aR_I, aR_L, aR_Rf]; rw [if_neg (by omega)])), (by first | rfl | (simp only [aI_I, aI_L, aI_Rf, aL_I, aL_L, aL_Rf, aR_I, aR_L, aR_Rf]; rw [if_neg (by omega)])), (by first | rfl | (simp only [aI_I, aI_L, aI_Rf, aL_I, aL_L, aL_Rf, aR_I, aR_L, aR_Rf]; rw [if_neg (by omega)])), (by first | rfl | (simp only [aI_I, aI_L, aI_Rf, aL_I, aL_L, aL_Rf, aR_I, aR_L, aR_Rf]; rw [if_neg (by omega)])), (by first | rfl | (simp only [aI_I, aI_L, aI_Rf, aL_I, aL_L, aL_Rf, aR_I, aR_L, aR_Rf]; rw [if_neg (by omega)]))⟩) (fun _ => (by first | rfl | (simp only [aI_I, aI_L, aI_Rf, aL_I, aL_L, aL_Rf, aR_I, aR_L, aR_Rf]; rw [if_neg (by omega)]))) (fun _ => (by first | rfl | (simp only [aI_I, aI_L, aI_Rf, aL_I, aL_L, aL_Rf, aR_I, aR_L, aR_Rf]; rw [if_neg (by omega)]))) (fun _ => (by first | rfl | (simp only [aI_I, aI_L, aI_Rf, aL_I, aL_L, aL_Rf, aR_I, aR_L, aR_Rf]; rw [if_neg (by omega)]))) hj) (fun j hj _ => layM_eq (fun _ => (by first | rfl | (simp only [aI_I, aI_L, aI_Rf, aL_I, aL_L, aL_Rf, aR_I, aR_L, aR_Rf]; rw [if_neg (by omega)]))) (fun k h1 h2 _ => (by first | rfl | (simp only [aI_I, aI_L, aI_Rf, aL_I, aL_L, aL_Rf, aR_I, aR_L, aR_Rf]; rw [if_neg (by omega)]))) (fun k h1 h2 _ => (by first | rfl | (simp only [aI_I, aI_L, aI_Rf, aL_I, aL_L, aL_Rf, aR_I, aR_L, aR_Rf]; rw [if_neg (by omega)]))) hj) (fun n' hne => layD_eq (fun k h1 h2 => by have hnn : ¬ n' = n := (by omega); simp only [aI_I, aI_L, aI_Rf, aL_I, aL_L, aL_Rf, aR_I, aR_L, aR_Rf]; split <;> simp [upd, hnn, *]) (by first | rfl | (simp only [aI_I, aI_L, aI_Rf, aL_I, aL_L, aL_Rf, aR_I, aR_L, aR_Rf]; rw [if_neg (by omega)]))))
  rw [lay_D]; simp [layD, layX, aI_I, aI_L, aI_Rf, aL_I, aL_L, aL_Rf, aR_I, aR_L, aR_Rf, upd, hK]
theorem wσ_dfact7 {AC : Nat → ClassId} {Γ : Ev} {σ : St} {n : Nat} (hK : Γ.K n = 7) (v : Int32) : wS (wσ AC Γ σ) (344 + n) (.inr (7, [.int (σ.I 6 n), .int (σ.I 7 n), .int v, .int (σ.I 9 n), .int (σ.I 10 n), .int (σ.I 11 n)])) = wσ AC Γ (σ.sI 8 n v) := by
  refine wσ_set ?_ (fun i hi => lay_eq hi (fun j _ _ => lay0_eq (by first | rfl | (simp only [aI_I, aI_L, aI_Rf, aL_I, aL_L, aL_Rf, aR_I, aR_L, aR_Rf]; rw [if_neg (by omega)])) (by first | rfl | (simp only [aI_I, aI_L, aI_Rf, aL_I, aL_L, aL_Rf, aR_I, aR_L, aR_Rf]; rw [if_neg (by omega)]))) (fun p' j hp' hj hne => layP_eq (fun _ => ⟨(by first | rfl | (simp only [aI_I, aI_L, aI_Rf, aL_I, aL_L, aL_Rf, aR_I, aR_L, aR_Rf]; rw [if_neg (by omega)])), (by first | rfl | (simp only [aI_I, aI_L, aI_Rf, aL_I, aL_L, aL_Rf, aR_I, aR_L, aR_Rf]; rw [if_neg (by omega)])), (by first | rfl | (simp only [aI_I, aI_L, aI_Rf, aL_I, aL_L, aL_Rf, aR_I, aR_L, aR_Rf]; rw [if_neg (by omega)])), (by first | rfl | (simp only [aI_I, aI_L, aI_Rf, aL_I, aL_L, aL_Rf, aR_I, aR_L, aR_Rf]; rw [if_neg (by omega)])), (by first | rfl | (simp only [aI_I, aI_L, aI_Rf, aL_I, aL_L, aL_Rf, aR_I, aR_L, aR_Rf]; rw [if_neg (by omega)])), (by first | rfl | (simp only [aI_I, aI_L, aI_Rf, aL_I, aL_L, aL_Rf, aR_I, aR_L, aR_Rf]; rw [if_neg (by omega)]))⟩) (fun _ => (by first | rfl | (simp only [aI_I, aI_L, aI_Rf, aL_I, aL_L, aL_Rf, aR_I, aR_L, aR_Rf]; rw [if_neg (by omega)]))) (fun _ => (by first | rfl | (simp only [aI_I, aI_L, aI_Rf, aL_I, aL_L, aL_Rf, aR_I, aR_L, aR_Rf]; rw [if_neg (by omega)]))) (fun _ => (by first | rfl | (simp only [aI_I, aI_L, aI_Rf, aL_I, aL_L, aL_Rf, aR_I, aR_L, aR_Rf]; rw [if_neg (by omega)]))) hj) (fun j hj _ => layM_eq (fun _ => (by first | rfl | (simp only [aI_I, aI_L, aI_Rf, aL_I, aL_L, aL_Rf, aR_I, aR_L, aR_Rf]; rw [if_neg (by omega)]))) (fun k h1 h2 _ => (by first | rfl | (simp only [aI_I, aI_L, aI_Rf, aL_I, aL_L, aL_Rf, aR_I, aR_L, aR_Rf]; rw [if_neg (by omega)]))) (fun k h1 h2 _ => (by first | rfl | (simp only [aI_I, aI_L, aI_Rf, aL_I, aL_L, aL_Rf, aR_I, aR_L, aR_Rf]; rw [if_neg (by omega)]))) hj) (fun n' hne => layD_eq (fun k h1 h2 => by have hnn : ¬ n' = n := (by omega); simp only [aI_I, aI_L, aI_Rf, aL_I, aL_L, aL_Rf, aR_I, aR_L, aR_Rf]; split <;> simp [upd, hnn, *]) (by first | rfl | (simp only [aI_I, aI_L, aI_Rf, aL_I, aL_L, aL_Rf, aR_I, aR_L, aR_Rf]; rw [if_neg (by omega)]))))
  rw [lay_D]; simp [layD, layX, aI_I, aI_L, aI_Rf, aL_I, aL_L, aL_Rf, aR_I, aR_L, aR_Rf, upd, hK]
theorem wσ_dout7 {AC : Nat → ClassId} {Γ : Ev} {σ : St} {n : Nat} (hK : Γ.K n = 7) (v : Int32) : wS (wσ AC Γ σ) (344 + n) (.inr (7, [.int (σ.I 6 n), .int (σ.I 7 n), .int (σ.I 8 n), .int v, .int (σ.I 10 n), .int (σ.I 11 n)])) = wσ AC Γ (σ.sI 9 n v) := by
  refine wσ_set ?_ (fun i hi => lay_eq hi (fun j _ _ => lay0_eq (by first | rfl | (simp only [aI_I, aI_L, aI_Rf, aL_I, aL_L, aL_Rf, aR_I, aR_L, aR_Rf]; rw [if_neg (by omega)])) (by first | rfl | (simp only [aI_I, aI_L, aI_Rf, aL_I, aL_L, aL_Rf, aR_I, aR_L, aR_Rf]; rw [if_neg (by omega)]))) (fun p' j hp' hj hne => layP_eq (fun _ => ⟨(by first | rfl | (simp only [aI_I, aI_L, aI_Rf, aL_I, aL_L, aL_Rf, aR_I, aR_L, aR_Rf]; rw [if_neg (by omega)])), (by first | rfl | (simp only [aI_I, aI_L, aI_Rf, aL_I, aL_L, aL_Rf, aR_I, aR_L, aR_Rf]; rw [if_neg (by omega)])), (by first | rfl | (simp only [aI_I, aI_L, aI_Rf, aL_I, aL_L, aL_Rf, aR_I, aR_L, aR_Rf]; rw [if_neg (by omega)])), (by first | rfl | (simp only [aI_I, aI_L, aI_Rf, aL_I, aL_L, aL_Rf, aR_I, aR_L, aR_Rf]; rw [if_neg (by omega)])), (by first | rfl | (simp only [aI_I, aI_L, aI_Rf, aL_I, aL_L, aL_Rf, aR_I, aR_L, aR_Rf]; rw [if_neg (by omega)])), (by first | rfl | (simp only [aI_I, aI_L, aI_Rf, aL_I, aL_L, aL_Rf, aR_I, aR_L, aR_Rf]; rw [if_neg (by omega)]))⟩) (fun _ => (by first | rfl | (simp only [aI_I, aI_L, aI_Rf, aL_I, aL_L, aL_Rf, aR_I, aR_L, aR_Rf]; rw [if_neg (by omega)]))) (fun _ => (by first | rfl | (simp only [aI_I, aI_L, aI_Rf, aL_I, aL_L, aL_Rf, aR_I, aR_L, aR_Rf]; rw [if_neg (by omega)]))) (fun _ => (by first | rfl | (simp only [aI_I, aI_L, aI_Rf, aL_I, aL_L, aL_Rf, aR_I, aR_L, aR_Rf]; rw [if_neg (by omega)]))) hj) (fun j hj _ => layM_eq (fun _ => (by first | rfl | (simp only [aI_I, aI_L, aI_Rf, aL_I, aL_L, aL_Rf, aR_I, aR_L, aR_Rf]; rw [if_neg (by omega)]))) (fun k h1 h2 _ => (by first | rfl | (simp only [aI_I, aI_L, aI_Rf, aL_I, aL_L, aL_Rf, aR_I, aR_L, aR_Rf]; rw [if_neg (by omega)]))) (fun k h1 h2 _ => (by first | rfl | (simp only [aI_I, aI_L, aI_Rf, aL_I, aL_L, aL_Rf, aR_I, aR_L, aR_Rf]; rw [if_neg (by omega)]))) hj) (fun n' hne => layD_eq (fun k h1 h2 => by have hnn : ¬ n' = n := (by omega); simp only [aI_I, aI_L, aI_Rf, aL_I, aL_L, aL_Rf, aR_I, aR_L, aR_Rf]; split <;> simp [upd, hnn, *]) (by first | rfl | (simp only [aI_I, aI_L, aI_Rf, aL_I, aL_L, aL_Rf, aR_I, aR_L, aR_Rf]; rw [if_neg (by omega)]))))
  rw [lay_D]; simp [layD, layX, aI_I, aI_L, aI_Rf, aL_I, aL_L, aL_Rf, aR_I, aR_L, aR_Rf, upd, hK]
theorem wσ_dx7_0 {AC : Nat → ClassId} {Γ : Ev} {σ : St} {n : Nat} (hK : Γ.K n = 7) (v : Int32) : wS (wσ AC Γ σ) (344 + n) (.inr (7, [.int (σ.I 6 n), .int (σ.I 7 n), .int (σ.I 8 n), .int (σ.I 9 n), .int v, .int (σ.I 11 n)])) = wσ AC Γ (σ.sI 10 n v) := by
  refine wσ_set ?_ (fun i hi => lay_eq hi (fun j _ _ => lay0_eq (by first | rfl | (simp only [aI_I, aI_L, aI_Rf, aL_I, aL_L, aL_Rf, aR_I, aR_L, aR_Rf]; rw [if_neg (by omega)])) (by first | rfl | (simp only [aI_I, aI_L, aI_Rf, aL_I, aL_L, aL_Rf, aR_I, aR_L, aR_Rf]; rw [if_neg (by omega)]))) (fun p' j hp' hj hne => layP_eq (fun _ => ⟨(by first | rfl | (simp only [aI_I, aI_L, aI_Rf, aL_I, aL_L, aL_Rf, aR_I, aR_L, aR_Rf]; rw [if_neg (by omega)])), (by first | rfl | (simp only [aI_I, aI_L, aI_Rf, aL_I, aL_L, aL_Rf, aR_I, aR_L, aR_Rf]; rw [if_neg (by omega)])), (by first | rfl | (simp only [aI_I, aI_L, aI_Rf, aL_I, aL_L, aL_Rf, aR_I, aR_L, aR_Rf]; rw [if_neg (by omega)])), (by first | rfl | (simp only [aI_I, aI_L, aI_Rf, aL_I, aL_L, aL_Rf, aR_I, aR_L, aR_Rf]; rw [if_neg (by omega)])), (by first | rfl | (simp only [aI_I, aI_L, aI_Rf, aL_I, aL_L, aL_Rf, aR_I, aR_L, aR_Rf]; rw [if_neg (by omega)])), (by first | rfl | (simp only [aI_I, aI_L, aI_Rf, aL_I, aL_L, aL_Rf, aR_I, aR_L, aR_Rf]; rw [if_neg (by omega)]))⟩) (fun _ => (by first | rfl | (simp only [aI_I, aI_L, aI_Rf, aL_I, aL_L, aL_Rf, aR_I, aR_L, aR_Rf]; rw [if_neg (by omega)]))) (fun _ => (by first | rfl | (simp only [aI_I, aI_L, aI_Rf, aL_I, aL_L, aL_Rf, aR_I, aR_L, aR_Rf]; rw [if_neg (by omega)]))) (fun _ => (by first | rfl | (simp only [aI_I, aI_L, aI_Rf, aL_I, aL_L, aL_Rf, aR_I, aR_L, aR_Rf]; rw [if_neg (by omega)]))) hj) (fun j hj _ => layM_eq (fun _ => (by first | rfl | (simp only [aI_I, aI_L, aI_Rf, aL_I, aL_L, aL_Rf, aR_I, aR_L, aR_Rf]; rw [if_neg (by omega)]))) (fun k h1 h2 _ => (by first | rfl | (simp only [aI_I, aI_L, aI_Rf, aL_I, aL_L, aL_Rf, aR_I, aR_L, aR_Rf]; rw [if_neg (by omega)]))) (fun k h1 h2 _ => (by first | rfl | (simp only [aI_I, aI_L, aI_Rf, aL_I, aL_L, aL_Rf, aR_I, aR_L, aR_Rf]; rw [if_neg (by omega)]))) hj) (fun n' hne => layD_eq (fun k h1 h2 => by have hnn : ¬ n' = n := (by omega); simp only [aI_I, aI_L, aI_Rf, aL_I, aL_L, aL_Rf, aR_I, aR_L, aR_Rf]; split <;> simp [upd, hnn, *]) (by first | rfl | (simp only [aI_I, aI_L, aI_Rf, aL_I, aL_L, aL_Rf, aR_I, aR_L, aR_Rf]; rw [if_neg (by omega)]))))
  rw [lay_D]; simp [layD, layX, aI_I, aI_L, aI_Rf, aL_I, aL_L, aL_Rf, aR_I, aR_L, aR_Rf, upd, hK]
theorem wσ_dx7_1 {AC : Nat → ClassId} {Γ : Ev} {σ : St} {n : Nat} (hK : Γ.K n = 7) (v : Int32) : wS (wσ AC Γ σ) (344 + n) (.inr (7, [.int (σ.I 6 n), .int (σ.I 7 n), .int (σ.I 8 n), .int (σ.I 9 n), .int (σ.I 10 n), .int v])) = wσ AC Γ (σ.sI 11 n v) := by
  refine wσ_set ?_ (fun i hi => lay_eq hi (fun j _ _ => lay0_eq (by first | rfl | (simp only [aI_I, aI_L, aI_Rf, aL_I, aL_L, aL_Rf, aR_I, aR_L, aR_Rf]; rw [if_neg (by omega)])) (by first | rfl | (simp only [aI_I, aI_L, aI_Rf, aL_I, aL_L, aL_Rf, aR_I, aR_L, aR_Rf]; rw [if_neg (by omega)]))) (fun p' j hp' hj hne => layP_eq (fun _ => ⟨(by first | rfl | (simp only [aI_I, aI_L, aI_Rf, aL_I, aL_L, aL_Rf, aR_I, aR_L, aR_Rf]; rw [if_neg (by omega)])), (by first | rfl | (simp only [aI_I, aI_L, aI_Rf, aL_I, aL_L, aL_Rf, aR_I, aR_L, aR_Rf]; rw [if_neg (by omega)])), (by first | rfl | (simp only [aI_I, aI_L, aI_Rf, aL_I, aL_L, aL_Rf, aR_I, aR_L, aR_Rf]; rw [if_neg (by omega)])), (by first | rfl | (simp only [aI_I, aI_L, aI_Rf, aL_I, aL_L, aL_Rf, aR_I, aR_L, aR_Rf]; rw [if_neg (by omega)])), (by first | rfl | (simp only [aI_I, aI_L, aI_Rf, aL_I, aL_L, aL_Rf, aR_I, aR_L, aR_Rf]; rw [if_neg (by omega)])), (by first | rfl | (simp only [aI_I, aI_L, aI_Rf, aL_I, aL_L, aL_Rf, aR_I, aR_L, aR_Rf]; rw [if_neg (by omega)]))⟩) (fun _ => (by first | rfl | (simp only [aI_I, aI_L, aI_Rf, aL_I, aL_L, aL_Rf, aR_I, aR_L, aR_Rf]; rw [if_neg (by omega)]))) (fun _ => (by first | rfl | (simp only [aI_I, aI_L, aI_Rf, aL_I, aL_L, aL_Rf, aR_I, aR_L, aR_Rf]; rw [if_neg (by omega)]))) (fun _ => (by first | rfl | (simp only [aI_I, aI_L, aI_Rf, aL_I, aL_L, aL_Rf, aR_I, aR_L, aR_Rf]; rw [if_neg (by omega)]))) hj) (fun j hj _ => layM_eq (fun _ => (by first | rfl | (simp only [aI_I, aI_L, aI_Rf, aL_I, aL_L, aL_Rf, aR_I, aR_L, aR_Rf]; rw [if_neg (by omega)]))) (fun k h1 h2 _ => (by first | rfl | (simp only [aI_I, aI_L, aI_Rf, aL_I, aL_L, aL_Rf, aR_I, aR_L, aR_Rf]; rw [if_neg (by omega)]))) (fun k h1 h2 _ => (by first | rfl | (simp only [aI_I, aI_L, aI_Rf, aL_I, aL_L, aL_Rf, aR_I, aR_L, aR_Rf]; rw [if_neg (by omega)]))) hj) (fun n' hne => layD_eq (fun k h1 h2 => by have hnn : ¬ n' = n := (by omega); simp only [aI_I, aI_L, aI_Rf, aL_I, aL_L, aL_Rf, aR_I, aR_L, aR_Rf]; split <;> simp [upd, hnn, *]) (by first | rfl | (simp only [aI_I, aI_L, aI_Rf, aL_I, aL_L, aL_Rf, aR_I, aR_L, aR_Rf]; rw [if_neg (by omega)]))))
  rw [lay_D]; simp [layD, layX, aI_I, aI_L, aI_Rf, aL_I, aL_L, aL_Rf, aR_I, aR_L, aR_Rf, upd, hK]
theorem lay_D8 {AC : Nat → ClassId} {Γ : Ev} {σ : St} {n : Nat} (hK : Γ.K n = 8) : lay AC Γ σ (344 + n) = .inr (8, [.int (σ.I 6 n), .int (σ.I 7 n), .int (σ.I 8 n), .int (σ.I 9 n), .int (σ.I 10 n), .int (σ.I 11 n)]) := by
  rw [lay_D]; simp [layD, layX, hK]
theorem wσ_dnum8 {AC : Nat → ClassId} {Γ : Ev} {σ : St} {n : Nat} (hK : Γ.K n = 8) (v : Int32) : wS (wσ AC Γ σ) (344 + n) (.inr (8, [.int v, .int (σ.I 7 n), .int (σ.I 8 n), .int (σ.I 9 n), .int (σ.I 10 n), .int (σ.I 11 n)])) = wσ AC Γ (σ.sI 6 n v) := by
  refine wσ_set ?_ (fun i hi => lay_eq hi (fun j _ _ => lay0_eq (by first | rfl | (simp only [aI_I, aI_L, aI_Rf, aL_I, aL_L, aL_Rf, aR_I, aR_L, aR_Rf]; rw [if_neg (by omega)])) (by first | rfl | (simp only [aI_I, aI_L, aI_Rf, aL_I, aL_L, aL_Rf, aR_I, aR_L, aR_Rf]; rw [if_neg (by omega)]))) (fun p' j hp' hj hne => layP_eq (fun _ => ⟨(by first | rfl | (simp only [aI_I, aI_L, aI_Rf, aL_I, aL_L, aL_Rf, aR_I, aR_L, aR_Rf]; rw [if_neg (by omega)])), (by first | rfl | (simp only [aI_I, aI_L, aI_Rf, aL_I, aL_L, aL_Rf, aR_I, aR_L, aR_Rf]; rw [if_neg (by omega)])), (by first | rfl | (simp only [aI_I, aI_L, aI_Rf, aL_I, aL_L, aL_Rf, aR_I, aR_L, aR_Rf]; rw [if_neg (by omega)])), (by first | rfl | (simp only [aI_I, aI_L, aI_Rf, aL_I, aL_L, aL_Rf, aR_I, aR_L, aR_Rf]; rw [if_neg (by omega)])), (by first | rfl | (simp only [aI_I, aI_L, aI_Rf, aL_I, aL_L, aL_Rf, aR_I, aR_L, aR_Rf]; rw [if_neg (by omega)])), (by first | rfl | (simp only [aI_I, aI_L, aI_Rf, aL_I, aL_L, aL_Rf, aR_I, aR_L, aR_Rf]; rw [if_neg (by omega)]))⟩) (fun _ => (by first | rfl | (simp only [aI_I, aI_L, aI_Rf, aL_I, aL_L, aL_Rf, aR_I, aR_L, aR_Rf]; rw [if_neg (by omega)]))) (fun _ => (by first | rfl | (simp only [aI_I, aI_L, aI_Rf, aL_I, aL_L, aL_Rf, aR_I, aR_L, aR_Rf]; rw [if_neg (by omega)]))) (fun _ => (by first | rfl | (simp only [aI_I, aI_L, aI_Rf, aL_I, aL_L, aL_Rf, aR_I, aR_L, aR_Rf]; rw [if_neg (by omega)]))) hj) (fun j hj _ => layM_eq (fun _ => (by first | rfl | (simp only [aI_I, aI_L, aI_Rf, aL_I, aL_L, aL_Rf, aR_I, aR_L, aR_Rf]; rw [if_neg (by omega)]))) (fun k h1 h2 _ => (by first | rfl | (simp only [aI_I, aI_L, aI_Rf, aL_I, aL_L, aL_Rf, aR_I, aR_L, aR_Rf]; rw [if_neg (by omega)]))) (fun k h1 h2 _ => (by first | rfl | (simp only [aI_I, aI_L, aI_Rf, aL_I, aL_L, aL_Rf, aR_I, aR_L, aR_Rf]; rw [if_neg (by omega)]))) hj) (fun n' hne => layD_eq (fun k h1 h2 => by have hnn : ¬ n' = n := (by omega); simp only [aI_I, aI_L, aI_Rf, aL_I, aL_L, aL_Rf, aR_I, aR_L, aR_Rf]; split <;> simp [upd, hnn, *]) (by first | rfl | (simp only [aI_I, aI_L, aI_Rf, aL_I, aL_L, aL_Rf, aR_I, aR_L, aR_Rf]; rw [if_neg (by omega)]))))
  rw [lay_D]; simp [layD, layX, aI_I, aI_L, aI_Rf, aL_I, aL_L, aL_Rf, aR_I, aR_L, aR_Rf, upd, hK]
theorem wσ_drec8 {AC : Nat → ClassId} {Γ : Ev} {σ : St} {n : Nat} (hK : Γ.K n = 8) (v : Int32) : wS (wσ AC Γ σ) (344 + n) (.inr (8, [.int (σ.I 6 n), .int v, .int (σ.I 8 n), .int (σ.I 9 n), .int (σ.I 10 n), .int (σ.I 11 n)])) = wσ AC Γ (σ.sI 7 n v) := by
  refine wσ_set ?_ (fun i hi => lay_eq hi (fun j _ _ => lay0_eq (by first | rfl | (simp only [aI_I, aI_L, aI_Rf, aL_I, aL_L, aL_Rf, aR_I, aR_L, aR_Rf]; rw [if_neg (by omega)])) (by first | rfl | (simp only [aI_I, aI_L, aI_Rf, aL_I, aL_L, aL_Rf, aR_I, aR_L, aR_Rf]; rw [if_neg (by omega)]))) (fun p' j hp' hj hne => layP_eq (fun _ => ⟨(by first | rfl | (simp only [aI_I, aI_L, aI_Rf, aL_I, aL_L, aL_Rf, aR_I, aR_L, aR_Rf]; rw [if_neg (by omega)])), (by first | rfl | (simp only [aI_I, aI_L, aI_Rf, aL_I, aL_L, aL_Rf, aR_I, aR_L, aR_Rf]; rw [if_neg (by omega)])), (by first | rfl | (simp only [aI_I, aI_L, aI_Rf, aL_I, aL_L, aL_Rf, aR_I, aR_L, aR_Rf]; rw [if_neg (by omega)])), (by first | rfl | (simp only [aI_I, aI_L, aI_Rf, aL_I, aL_L, aL_Rf, aR_I, aR_L, aR_Rf]; rw [if_neg (by omega)])), (by first | rfl | (simp only [aI_I, aI_L, aI_Rf, aL_I, aL_L, aL_Rf, aR_I, aR_L, aR_Rf]; rw [if_neg (by omega)])), (by first | rfl | (simp only [aI_I, aI_L, aI_Rf, aL_I, aL_L, aL_Rf, aR_I, aR_L, aR_Rf]; rw [if_neg (by omega)]))⟩) (fun _ => (by first | rfl | (simp only [aI_I, aI_L, aI_Rf, aL_I, aL_L, aL_Rf, aR_I, aR_L, aR_Rf]; rw [if_neg (by omega)]))) (fun _ => (by first | rfl | (simp only [aI_I, aI_L, aI_Rf, aL_I, aL_L, aL_Rf, aR_I, aR_L, aR_Rf]; rw [if_neg (by omega)]))) (fun _ => (by first | rfl | (simp only [aI_I, aI_L, aI_Rf, aL_I, aL_L, aL_Rf, aR_I, aR_L, aR_Rf]; rw [if_neg (by omega)]))) hj) (fun j hj _ => layM_eq (fun _ => (by first | rfl | (simp only [aI_I, aI_L, aI_Rf, aL_I, aL_L, aL_Rf, aR_I, aR_L, aR_Rf]; rw [if_neg (by omega)]))) (fun k h1 h2 _ => (by first | rfl | (simp only [aI_I, aI_L, aI_Rf, aL_I, aL_L, aL_Rf, aR_I, aR_L, aR_Rf]; rw [if_neg (by omega)]))) (fun k h1 h2 _ => (by first | rfl | (simp only [aI_I, aI_L, aI_Rf, aL_I, aL_L, aL_Rf, aR_I, aR_L, aR_Rf]; rw [if_neg (by omega)]))) hj) (fun n' hne => layD_eq (fun k h1 h2 => by have hnn : ¬ n' = n := (by omega); simp only [aI_I, aI_L, aI_Rf, aL_I, aL_L, aL_Rf, aR_I, aR_L, aR_Rf]; split <;> simp [upd, hnn, *]) (by first | rfl | (simp only [aI_I, aI_L, aI_Rf, aL_I, aL_L, aL_Rf, aR_I, aR_L, aR_Rf]; rw [if_neg (by omega)]))))
  rw [lay_D]; simp [layD, layX, aI_I, aI_L, aI_Rf, aL_I, aL_L, aL_Rf, aR_I, aR_L, aR_Rf, upd, hK]
theorem wσ_dfact8 {AC : Nat → ClassId} {Γ : Ev} {σ : St} {n : Nat} (hK : Γ.K n = 8) (v : Int32) : wS (wσ AC Γ σ) (344 + n) (.inr (8, [.int (σ.I 6 n), .int (σ.I 7 n), .int v, .int (σ.I 9 n), .int (σ.I 10 n), .int (σ.I 11 n)])) = wσ AC Γ (σ.sI 8 n v) := by
  refine wσ_set ?_ (fun i hi => lay_eq hi (fun j _ _ => lay0_eq (by first | rfl | (simp only [aI_I, aI_L, aI_Rf, aL_I, aL_L, aL_Rf, aR_I, aR_L, aR_Rf]; rw [if_neg (by omega)])) (by first | rfl | (simp only [aI_I, aI_L, aI_Rf, aL_I, aL_L, aL_Rf, aR_I, aR_L, aR_Rf]; rw [if_neg (by omega)]))) (fun p' j hp' hj hne => layP_eq (fun _ => ⟨(by first | rfl | (simp only [aI_I, aI_L, aI_Rf, aL_I, aL_L, aL_Rf, aR_I, aR_L, aR_Rf]; rw [if_neg (by omega)])), (by first | rfl | (simp only [aI_I, aI_L, aI_Rf, aL_I, aL_L, aL_Rf, aR_I, aR_L, aR_Rf]; rw [if_neg (by omega)])), (by first | rfl | (simp only [aI_I, aI_L, aI_Rf, aL_I, aL_L, aL_Rf, aR_I, aR_L, aR_Rf]; rw [if_neg (by omega)])), (by first | rfl | (simp only [aI_I, aI_L, aI_Rf, aL_I, aL_L, aL_Rf, aR_I, aR_L, aR_Rf]; rw [if_neg (by omega)])), (by first | rfl | (simp only [aI_I, aI_L, aI_Rf, aL_I, aL_L, aL_Rf, aR_I, aR_L, aR_Rf]; rw [if_neg (by omega)])), (by first | rfl | (simp only [aI_I, aI_L, aI_Rf, aL_I, aL_L, aL_Rf, aR_I, aR_L, aR_Rf]; rw [if_neg (by omega)]))⟩) (fun _ => (by first | rfl | (simp only [aI_I, aI_L, aI_Rf, aL_I, aL_L, aL_Rf, aR_I, aR_L, aR_Rf]; rw [if_neg (by omega)]))) (fun _ => (by first | rfl | (simp only [aI_I, aI_L, aI_Rf, aL_I, aL_L, aL_Rf, aR_I, aR_L, aR_Rf]; rw [if_neg (by omega)]))) (fun _ => (by first | rfl | (simp only [aI_I, aI_L, aI_Rf, aL_I, aL_L, aL_Rf, aR_I, aR_L, aR_Rf]; rw [if_neg (by omega)]))) hj) (fun j hj _ => layM_eq (fun _ => (by first | rfl | (simp only [aI_I, aI_L, aI_Rf, aL_I, aL_L, aL_Rf, aR_I, aR_L, aR_Rf]; rw [if_neg (by omega)]))) (fun k h1 h2 _ => (by first | rfl | (simp only [aI_I, aI_L, aI_Rf, aL_I, aL_L, aL_Rf, aR_I, aR_L, aR_Rf]; rw [if_neg (by omega)]))) (fun k h1 h2 _ => (by first | rfl | (simp only [aI_I, aI_L, aI_Rf, aL_I, aL_L, aL_Rf, aR_I, aR_L, aR_Rf]; rw [if_neg (by omega)]))) hj) (fun n' hne => layD_eq (fun k h1 h2 => by have hnn : ¬ n' = n := (by omega); simp only [aI_I, aI_L, aI_Rf, aL_I, aL_L, aL_Rf, aR_I, aR_L, aR_Rf]; split <;> simp [upd, hnn, *]) (by first | rfl | (simp only [aI_I, aI_L, aI_Rf, aL_I, aL_L, aL_Rf, aR_I, aR_L, aR_Rf]; rw [if_neg (by omega)]))))
  rw [lay_D]; simp [layD, layX, aI_I, aI_L, aI_Rf, aL_I, aL_L, aL_Rf, aR_I, aR_L, aR_Rf, upd, hK]
theorem wσ_dout8 {AC : Nat → ClassId} {Γ : Ev} {σ : St} {n : Nat} (hK : Γ.K n = 8) (v : Int32) : wS (wσ AC Γ σ) (344 + n) (.inr (8, [.int (σ.I 6 n), .int (σ.I 7 n), .int (σ.I 8 n), .int v, .int (σ.I 10 n), .int (σ.I 11 n)])) = wσ AC Γ (σ.sI 9 n v) := by
  refine wσ_set ?_ (fun i hi => lay_eq hi (fun j _ _ => lay0_eq (by first | rfl | (simp only [aI_I, aI_L, aI_Rf, aL_I, aL_L, aL_Rf, aR_I, aR_L, aR_Rf]; rw [if_neg (by omega)])) (by first | rfl | (simp only [aI_I, aI_L, aI_Rf, aL_I, aL_L, aL_Rf, aR_I, aR_L, aR_Rf]; rw [if_neg (by omega)]))) (fun p' j hp' hj hne => layP_eq (fun _ => ⟨(by first | rfl | (simp only [aI_I, aI_L, aI_Rf, aL_I, aL_L, aL_Rf, aR_I, aR_L, aR_Rf]; rw [if_neg (by omega)])), (by first | rfl | (simp only [aI_I, aI_L, aI_Rf, aL_I, aL_L, aL_Rf, aR_I, aR_L, aR_Rf]; rw [if_neg (by omega)])), (by first | rfl | (simp only [aI_I, aI_L, aI_Rf, aL_I, aL_L, aL_Rf, aR_I, aR_L, aR_Rf]; rw [if_neg (by omega)])), (by first | rfl | (simp only [aI_I, aI_L, aI_Rf, aL_I, aL_L, aL_Rf, aR_I, aR_L, aR_Rf]; rw [if_neg (by omega)])), (by first | rfl | (simp only [aI_I, aI_L, aI_Rf, aL_I, aL_L, aL_Rf, aR_I, aR_L, aR_Rf]; rw [if_neg (by omega)])), (by first | rfl | (simp only [aI_I, aI_L, aI_Rf, aL_I, aL_L, aL_Rf, aR_I, aR_L, aR_Rf]; rw [if_neg (by omega)]))⟩) (fun _ => (by first | rfl | (simp only [aI_I, aI_L, aI_Rf, aL_I, aL_L, aL_Rf, aR_I, aR_L, aR_Rf]; rw [if_neg (by omega)]))) (fun _ => (by first | rfl | (simp only [aI_I, aI_L, aI_Rf, aL_I, aL_L, aL_Rf, aR_I, aR_L, aR_Rf]; rw [if_neg (by omega)]))) (fun _ => (by first | rfl | (simp only [aI_I, aI_L, aI_Rf, aL_I, aL_L, aL_Rf, aR_I, aR_L, aR_Rf]; rw [if_neg (by omega)]))) hj) (fun j hj _ => layM_eq (fun _ => (by first | rfl | (simp only [aI_I, aI_L, aI_Rf, aL_I, aL_L, aL_Rf, aR_I, aR_L, aR_Rf]; rw [if_neg (by omega)]))) (fun k h1 h2 _ => (by first | rfl | (simp only [aI_I, aI_L, aI_Rf, aL_I, aL_L, aL_Rf, aR_I, aR_L, aR_Rf]; rw [if_neg (by omega)]))) (fun k h1 h2 _ => (by first | rfl | (simp only [aI_I, aI_L, aI_Rf, aL_I, aL_L, aL_Rf, aR_I, aR_L, aR_Rf]; rw [if_neg (by omega)]))) hj) (fun n' hne => layD_eq (fun k h1 h2 => by have hnn : ¬ n' = n := (by omega); simp only [aI_I, aI_L, aI_Rf, aL_I, aL_L, aL_Rf, aR_I, aR_L, aR_Rf]; split <;> simp [upd, hnn, *]) (by first | rfl | (simp only [aI_I, aI_L, aI_Rf, aL_I, aL_L, aL_Rf, aR_I, aR_L, aR_Rf]; rw [if_neg (by omega)]))))
  rw [lay_D]; simp [layD, layX, aI_I, aI_L, aI_Rf, aL_I, aL_L, aL_Rf, aR_I, aR_L, aR_Rf, upd, hK]
theorem wσ_dx8_0 {AC : Nat → ClassId} {Γ : Ev} {σ : St} {n : Nat} (hK : Γ.K n = 8) (v : Int32) : wS (wσ AC Γ σ) (344 + n) (.inr (8, [.int (σ.I 6 n), .int (σ.I 7 n), .int (σ.I 8 n), .int (σ.I 9 n), .int v, .int (σ.I 11 n)])) = wσ AC Γ (σ.sI 10 n v) := by
  refine wσ_set ?_ (fun i hi => lay_eq hi (fun j _ _ => lay0_eq (by first | rfl | (simp only [aI_I, aI_L, aI_Rf, aL_I, aL_L, aL_Rf, aR_I, aR_L, aR_Rf]; rw [if_neg (by omega)])) (by first | rfl | (simp only [aI_I, aI_L, aI_Rf, aL_I, aL_L, aL_Rf, aR_I, aR_L, aR_Rf]; rw [if_neg (by omega)]))) (fun p' j hp' hj hne => layP_eq (fun _ => ⟨(by first | rfl | (simp only [aI_I, aI_L, aI_Rf, aL_I, aL_L, aL_Rf, aR_I, aR_L, aR_Rf]; rw [if_neg (by omega)])), (by first | rfl | (simp only [aI_I, aI_L, aI_Rf, aL_I, aL_L, aL_Rf, aR_I, aR_L, aR_Rf]; rw [if_neg (by omega)])), (by first | rfl | (simp only [aI_I, aI_L, aI_Rf, aL_I, aL_L, aL_Rf, aR_I, aR_L, aR_Rf]; rw [if_neg (by omega)])), (by first | rfl | (simp only [aI_I, aI_L, aI_Rf, aL_I, aL_L, aL_Rf, aR_I, aR_L, aR_Rf]; rw [if_neg (by omega)])), (by first | rfl | (simp only [aI_I, aI_L, aI_Rf, aL_I, aL_L, aL_Rf, aR_I, aR_L, aR_Rf]; rw [if_neg (by omega)])), (by first | rfl | (simp only [aI_I, aI_L, aI_Rf, aL_I, aL_L, aL_Rf, aR_I, aR_L, aR_Rf]; rw [if_neg (by omega)]))⟩) (fun _ => (by first | rfl | (simp only [aI_I, aI_L, aI_Rf, aL_I, aL_L, aL_Rf, aR_I, aR_L, aR_Rf]; rw [if_neg (by omega)]))) (fun _ => (by first | rfl | (simp only [aI_I, aI_L, aI_Rf, aL_I, aL_L, aL_Rf, aR_I, aR_L, aR_Rf]; rw [if_neg (by omega)]))) (fun _ => (by first | rfl | (simp only [aI_I, aI_L, aI_Rf, aL_I, aL_L, aL_Rf, aR_I, aR_L, aR_Rf]; rw [if_neg (by omega)]))) hj) (fun j hj _ => layM_eq (fun _ => (by first | rfl | (simp only [aI_I, aI_L, aI_Rf, aL_I, aL_L, aL_Rf, aR_I, aR_L, aR_Rf]; rw [if_neg (by omega)]))) (fun k h1 h2 _ => (by first | rfl | (simp only [aI_I, aI_L, aI_Rf, aL_I, aL_L, aL_Rf, aR_I, aR_L, aR_Rf]; rw [if_neg (by omega)]))) (fun k h1 h2 _ => (by first | rfl | (simp only [aI_I, aI_L, aI_Rf, aL_I, aL_L, aL_Rf, aR_I, aR_L, aR_Rf]; rw [if_neg (by omega)]))) hj) (fun n' hne => layD_eq (fun k h1 h2 => by have hnn : ¬ n' = n := (by omega); simp only [aI_I, aI_L, aI_Rf, aL_I, aL_L, aL_Rf, aR_I, aR_L, aR_Rf]; split <;> simp [upd, hnn, *]) (by first | rfl | (simp only [aI_I, aI_L, aI_Rf, aL_I, aL_L, aL_Rf, aR_I, aR_L, aR_Rf]; rw [if_neg (by omega)]))))
  rw [lay_D]; simp [layD, layX, aI_I, aI_L, aI_Rf, aL_I, aL_L, aL_Rf, aR_I, aR_L, aR_Rf, upd, hK]
theorem wσ_dx8_1 {AC : Nat → ClassId} {Γ : Ev} {σ : St} {n : Nat} (hK : Γ.K n = 8) (v : Int32) : wS (wσ AC Γ σ) (344 + n) (.inr (8, [.int (σ.I 6 n), .int (σ.I 7 n), .int (σ.I 8 n), .int (σ.I 9 n), .int (σ.I 10 n), .int v])) = wσ AC Γ (σ.sI 11 n v) := by
  refine wσ_set ?_ (fun i hi => lay_eq hi (fun j _ _ => lay0_eq (by first | rfl | (simp only [aI_I, aI_L, aI_Rf, aL_I, aL_L, aL_Rf, aR_I, aR_L, aR_Rf]; rw [if_neg (by omega)])) (by first | rfl | (simp only [aI_I, aI_L, aI_Rf, aL_I, aL_L, aL_Rf, aR_I, aR_L, aR_Rf]; rw [if_neg (by omega)]))) (fun p' j hp' hj hne => layP_eq (fun _ => ⟨(by first | rfl | (simp only [aI_I, aI_L, aI_Rf, aL_I, aL_L, aL_Rf, aR_I, aR_L, aR_Rf]; rw [if_neg (by omega)])), (by first | rfl | (simp only [aI_I, aI_L, aI_Rf, aL_I, aL_L, aL_Rf, aR_I, aR_L, aR_Rf]; rw [if_neg (by omega)])), (by first | rfl | (simp only [aI_I, aI_L, aI_Rf, aL_I, aL_L, aL_Rf, aR_I, aR_L, aR_Rf]; rw [if_neg (by omega)])), (by first | rfl | (simp only [aI_I, aI_L, aI_Rf, aL_I, aL_L, aL_Rf, aR_I, aR_L, aR_Rf]; rw [if_neg (by omega)])), (by first | rfl | (simp only [aI_I, aI_L, aI_Rf, aL_I, aL_L, aL_Rf, aR_I, aR_L, aR_Rf]; rw [if_neg (by omega)])), (by first | rfl | (simp only [aI_I, aI_L, aI_Rf, aL_I, aL_L, aL_Rf, aR_I, aR_L, aR_Rf]; rw [if_neg (by omega)]))⟩) (fun _ => (by first | rfl | (simp only [aI_I, aI_L, aI_Rf, aL_I, aL_L, aL_Rf, aR_I, aR_L, aR_Rf]; rw [if_neg (by omega)]))) (fun _ => (by first | rfl | (simp only [aI_I, aI_L, aI_Rf, aL_I, aL_L, aL_Rf, aR_I, aR_L, aR_Rf]; rw [if_neg (by omega)]))) (fun _ => (by first | rfl | (simp only [aI_I, aI_L, aI_Rf, aL_I, aL_L, aL_Rf, aR_I, aR_L, aR_Rf]; rw [if_neg (by omega)]))) hj) (fun j hj _ => layM_eq (fun _ => (by first | rfl | (simp only [aI_I, aI_L, aI_Rf, aL_I, aL_L, aL_Rf, aR_I, aR_L, aR_Rf]; rw [if_neg (by omega)]))) (fun k h1 h2 _ => (by first | rfl | (simp only [aI_I, aI_L, aI_Rf, aL_I, aL_L, aL_Rf, aR_I, aR_L, aR_Rf]; rw [if_neg (by omega)]))) (fun k h1 h2 _ => (by first | rfl | (simp only [aI_I, aI_L, aI_Rf, aL_I, aL_L, aL_Rf, aR_I, aR_L, aR_Rf]; rw [if_neg (by omega)]))) hj) (fun n' hne => layD_eq (fun k h1 h2 => by have hnn : ¬ n' = n := (by omega); simp only [aI_I, aI_L, aI_Rf, aL_I, aL_L, aL_Rf, aR_I, aR_L, aR_Rf]; split <;> simp [upd, hnn, *]) (by first | rfl | (simp only [aI_I, aI_L, aI_Rf, aL_I, aL_L, aL_Rf, aR_I, aR_L, aR_Rf]; rw [if_neg (by omega)]))))
  rw [lay_D]; simp [layD, layX, aI_I, aI_L, aI_Rf, aL_I, aL_L, aL_Rf, aR_I, aR_L, aR_Rf, upd, hK]
theorem lay_D9 {AC : Nat → ClassId} {Γ : Ev} {σ : St} {n : Nat} (hK : Γ.K n = 9) : lay AC Γ σ (344 + n) = .inr (9, [.int (σ.I 6 n), .int (σ.I 7 n), .int (σ.I 8 n), .int (σ.I 9 n), .int (σ.I 10 n), .int (σ.I 11 n)]) := by
  rw [lay_D]; simp [layD, layX, hK]
theorem wσ_dnum9 {AC : Nat → ClassId} {Γ : Ev} {σ : St} {n : Nat} (hK : Γ.K n = 9) (v : Int32) : wS (wσ AC Γ σ) (344 + n) (.inr (9, [.int v, .int (σ.I 7 n), .int (σ.I 8 n), .int (σ.I 9 n), .int (σ.I 10 n), .int (σ.I 11 n)])) = wσ AC Γ (σ.sI 6 n v) := by
  refine wσ_set ?_ (fun i hi => lay_eq hi (fun j _ _ => lay0_eq (by first | rfl | (simp only [aI_I, aI_L, aI_Rf, aL_I, aL_L, aL_Rf, aR_I, aR_L, aR_Rf]; rw [if_neg (by omega)])) (by first | rfl | (simp only [aI_I, aI_L, aI_Rf, aL_I, aL_L, aL_Rf, aR_I, aR_L, aR_Rf]; rw [if_neg (by omega)]))) (fun p' j hp' hj hne => layP_eq (fun _ => ⟨(by first | rfl | (simp only [aI_I, aI_L, aI_Rf, aL_I, aL_L, aL_Rf, aR_I, aR_L, aR_Rf]; rw [if_neg (by omega)])), (by first | rfl | (simp only [aI_I, aI_L, aI_Rf, aL_I, aL_L, aL_Rf, aR_I, aR_L, aR_Rf]; rw [if_neg (by omega)])), (by first | rfl | (simp only [aI_I, aI_L, aI_Rf, aL_I, aL_L, aL_Rf, aR_I, aR_L, aR_Rf]; rw [if_neg (by omega)])), (by first | rfl | (simp only [aI_I, aI_L, aI_Rf, aL_I, aL_L, aL_Rf, aR_I, aR_L, aR_Rf]; rw [if_neg (by omega)])), (by first | rfl | (simp only [aI_I, aI_L, aI_Rf, aL_I, aL_L, aL_Rf, aR_I, aR_L, aR_Rf]; rw [if_neg (by omega)])), (by first | rfl | (simp only [aI_I, aI_L, aI_Rf, aL_I, aL_L, aL_Rf, aR_I, aR_L, aR_Rf]; rw [if_neg (by omega)]))⟩) (fun _ => (by first | rfl | (simp only [aI_I, aI_L, aI_Rf, aL_I, aL_L, aL_Rf, aR_I, aR_L, aR_Rf]; rw [if_neg (by omega)]))) (fun _ => (by first | rfl | (simp only [aI_I, aI_L, aI_Rf, aL_I, aL_L, aL_Rf, aR_I, aR_L, aR_Rf]; rw [if_neg (by omega)]))) (fun _ => (by first | rfl | (simp only [aI_I, aI_L, aI_Rf, aL_I, aL_L, aL_Rf, aR_I, aR_L, aR_Rf]; rw [if_neg (by omega)]))) hj) (fun j hj _ => layM_eq (fun _ => (by first | rfl | (simp only [aI_I, aI_L, aI_Rf, aL_I, aL_L, aL_Rf, aR_I, aR_L, aR_Rf]; rw [if_neg (by omega)]))) (fun k h1 h2 _ => (by first | rfl | (simp only [aI_I, aI_L, aI_Rf, aL_I, aL_L, aL_Rf, aR_I, aR_L, aR_Rf]; rw [if_neg (by omega)]))) (fun k h1 h2 _ => (by first | rfl | (simp only [aI_I, aI_L, aI_Rf, aL_I, aL_L, aL_Rf, aR_I, aR_L, aR_Rf]; rw [if_neg (by omega)]))) hj) (fun n' hne => layD_eq (fun k h1 h2 => by have hnn : ¬ n' = n := (by omega); simp only [aI_I, aI_L, aI_Rf, aL_I, aL_L, aL_Rf, aR_I, aR_L, aR_Rf]; split <;> simp [upd, hnn, *]) (by first | rfl | (simp only [aI_I, aI_L, aI_Rf, aL_I, aL_L, aL_Rf, aR_I, aR_L, aR_Rf]; rw [if_neg (by omega)]))))
  rw [lay_D]; simp [layD, layX, aI_I, aI_L, aI_Rf, aL_I, aL_L, aL_Rf, aR_I, aR_L, aR_Rf, upd, hK]
theorem wσ_drec9 {AC : Nat → ClassId} {Γ : Ev} {σ : St} {n : Nat} (hK : Γ.K n = 9) (v : Int32) : wS (wσ AC Γ σ) (344 + n) (.inr (9, [.int (σ.I 6 n), .int v, .int (σ.I 8 n), .int (σ.I 9 n), .int (σ.I 10 n), .int (σ.I 11 n)])) = wσ AC Γ (σ.sI 7 n v) := by
  refine wσ_set ?_ (fun i hi => lay_eq hi (fun j _ _ => lay0_eq (by first | rfl | (simp only [aI_I, aI_L, aI_Rf, aL_I, aL_L, aL_Rf, aR_I, aR_L, aR_Rf]; rw [if_neg (by omega)])) (by first | rfl | (simp only [aI_I, aI_L, aI_Rf, aL_I, aL_L, aL_Rf, aR_I, aR_L, aR_Rf]; rw [if_neg (by omega)]))) (fun p' j hp' hj hne => layP_eq (fun _ => ⟨(by first | rfl | (simp only [aI_I, aI_L, aI_Rf, aL_I, aL_L, aL_Rf, aR_I, aR_L, aR_Rf]; rw [if_neg (by omega)])), (by first | rfl | (simp only [aI_I, aI_L, aI_Rf, aL_I, aL_L, aL_Rf, aR_I, aR_L, aR_Rf]; rw [if_neg (by omega)])), (by first | rfl | (simp only [aI_I, aI_L, aI_Rf, aL_I, aL_L, aL_Rf, aR_I, aR_L, aR_Rf]; rw [if_neg (by omega)])), (by first | rfl | (simp only [aI_I, aI_L, aI_Rf, aL_I, aL_L, aL_Rf, aR_I, aR_L, aR_Rf]; rw [if_neg (by omega)])), (by first | rfl | (simp only [aI_I, aI_L, aI_Rf, aL_I, aL_L, aL_Rf, aR_I, aR_L, aR_Rf]; rw [if_neg (by omega)])), (by first | rfl | (simp only [aI_I, aI_L, aI_Rf, aL_I, aL_L, aL_Rf, aR_I, aR_L, aR_Rf]; rw [if_neg (by omega)]))⟩) (fun _ => (by first | rfl | (simp only [aI_I, aI_L, aI_Rf, aL_I, aL_L, aL_Rf, aR_I, aR_L, aR_Rf]; rw [if_neg (by omega)]))) (fun _ => (by first | rfl | (simp only [aI_I, aI_L, aI_Rf, aL_I, aL_L, aL_Rf, aR_I, aR_L, aR_Rf]; rw [if_neg (by omega)]))) (fun _ => (by first | rfl | (simp only [aI_I, aI_L, aI_Rf, aL_I, aL_L, aL_Rf, aR_I, aR_L, aR_Rf]; rw [if_neg (by omega)]))) hj) (fun j hj _ => layM_eq (fun _ => (by first | rfl | (simp only [aI_I, aI_L, aI_Rf, aL_I, aL_L, aL_Rf, aR_I, aR_L, aR_Rf]; rw [if_neg (by omega)]))) (fun k h1 h2 _ => (by first | rfl | (simp only [aI_I, aI_L, aI_Rf, aL_I, aL_L, aL_Rf, aR_I, aR_L, aR_Rf]; rw [if_neg (by omega)]))) (fun k h1 h2 _ => (by first | rfl | (simp only [aI_I, aI_L, aI_Rf, aL_I, aL_L, aL_Rf, aR_I, aR_L, aR_Rf]; rw [if_neg (by omega)]))) hj) (fun n' hne => layD_eq (fun k h1 h2 => by have hnn : ¬ n' = n := (by omega); simp only [aI_I, aI_L, aI_Rf, aL_I, aL_L, aL_Rf, aR_I, aR_L, aR_Rf]; split <;> simp [upd, hnn, *]) (by first | rfl | (simp only [aI_I, aI_L, aI_Rf, aL_I, aL_L, aL_Rf, aR_I, aR_L, aR_Rf]; rw [if_neg (by omega)]))))
  rw [lay_D]; simp [layD, layX, aI_I, aI_L, aI_Rf, aL_I, aL_L, aL_Rf, aR_I, aR_L, aR_Rf, upd, hK]
theorem wσ_dfact9 {AC : Nat → ClassId} {Γ : Ev} {σ : St} {n : Nat} (hK : Γ.K n = 9) (v : Int32) : wS (wσ AC Γ σ) (344 + n) (.inr (9, [.int (σ.I 6 n), .int (σ.I 7 n), .int v, .int (σ.I 9 n), .int (σ.I 10 n), .int (σ.I 11 n)])) = wσ AC Γ (σ.sI 8 n v) := by
  refine wσ_set ?_ (fun i hi => lay_eq hi (fun j _ _ => lay0_eq (by first | rfl | (simp only [aI_I, aI_L, aI_Rf, aL_I, aL_L, aL_Rf, aR_I, aR_L, aR_Rf]; rw [if_neg (by omega)])) (by first | rfl | (simp only [aI_I, aI_L, aI_Rf, aL_I, aL_L, aL_Rf, aR_I, aR_L, aR_Rf]; rw [if_neg (by omega)]))) (fun p' j hp' hj hne => layP_eq (fun _ => ⟨(by first | rfl | (simp only [aI_I, aI_L, aI_Rf, aL_I, aL_L, aL_Rf, aR_I, aR_L, aR_Rf]; rw [if_neg (by omega)])), (by first | rfl | (simp only [aI_I, aI_L, aI_Rf, aL_I, aL_L, aL_Rf, aR_I, aR_L, aR_Rf]; rw [if_neg (by omega)])), (by first | rfl | (simp only [aI_I, aI_L, aI_Rf, aL_I, aL_L, aL_Rf, aR_I, aR_L, aR_Rf]; rw [if_neg (by omega)])), (by first | rfl | (simp only [aI_I, aI_L, aI_Rf, aL_I, aL_L, aL_Rf, aR_I, aR_L, aR_Rf]; rw [if_neg (by omega)])), (by first | rfl | (simp only [aI_I, aI_L, aI_Rf, aL_I, aL_L, aL_Rf, aR_I, aR_L, aR_Rf]; rw [if_neg (by omega)])), (by first | rfl | (simp only [aI_I, aI_L, aI_Rf, aL_I, aL_L, aL_Rf, aR_I, aR_L, aR_Rf]; rw [if_neg (by omega)]))⟩) (fun _ => (by first | rfl | (simp only [aI_I, aI_L, aI_Rf, aL_I, aL_L, aL_Rf, aR_I, aR_L, aR_Rf]; rw [if_neg (by omega)]))) (fun _ => (by first | rfl | (simp only [aI_I, aI_L, aI_Rf, aL_I, aL_L, aL_Rf, aR_I, aR_L, aR_Rf]; rw [if_neg (by omega)]))) (fun _ => (by first | rfl | (simp only [aI_I, aI_L, aI_Rf, aL_I, aL_L, aL_Rf, aR_I, aR_L, aR_Rf]; rw [if_neg (by omega)]))) hj) (fun j hj _ => layM_eq (fun _ => (by first | rfl | (simp only [aI_I, aI_L, aI_Rf, aL_I, aL_L, aL_Rf, aR_I, aR_L, aR_Rf]; rw [if_neg (by omega)]))) (fun k h1 h2 _ => (by first | rfl | (simp only [aI_I, aI_L, aI_Rf, aL_I, aL_L, aL_Rf, aR_I, aR_L, aR_Rf]; rw [if_neg (by omega)]))) (fun k h1 h2 _ => (by first | rfl | (simp only [aI_I, aI_L, aI_Rf, aL_I, aL_L, aL_Rf, aR_I, aR_L, aR_Rf]; rw [if_neg (by omega)]))) hj) (fun n' hne => layD_eq (fun k h1 h2 => by have hnn : ¬ n' = n := (by omega); simp only [aI_I, aI_L, aI_Rf, aL_I, aL_L, aL_Rf, aR_I, aR_L, aR_Rf]; split <;> simp [upd, hnn, *]) (by first | rfl | (simp only [aI_I, aI_L, aI_Rf, aL_I, aL_L, aL_Rf, aR_I, aR_L, aR_Rf]; rw [if_neg (by omega)]))))
  rw [lay_D]; simp [layD, layX, aI_I, aI_L, aI_Rf, aL_I, aL_L, aL_Rf, aR_I, aR_L, aR_Rf, upd, hK]
theorem wσ_dout9 {AC : Nat → ClassId} {Γ : Ev} {σ : St} {n : Nat} (hK : Γ.K n = 9) (v : Int32) : wS (wσ AC Γ σ) (344 + n) (.inr (9, [.int (σ.I 6 n), .int (σ.I 7 n), .int (σ.I 8 n), .int v, .int (σ.I 10 n), .int (σ.I 11 n)])) = wσ AC Γ (σ.sI 9 n v) := by
  refine wσ_set ?_ (fun i hi => lay_eq hi (fun j _ _ => lay0_eq (by first | rfl | (simp only [aI_I, aI_L, aI_Rf, aL_I, aL_L, aL_Rf, aR_I, aR_L, aR_Rf]; rw [if_neg (by omega)])) (by first | rfl | (simp only [aI_I, aI_L, aI_Rf, aL_I, aL_L, aL_Rf, aR_I, aR_L, aR_Rf]; rw [if_neg (by omega)]))) (fun p' j hp' hj hne => layP_eq (fun _ => ⟨(by first | rfl | (simp only [aI_I, aI_L, aI_Rf, aL_I, aL_L, aL_Rf, aR_I, aR_L, aR_Rf]; rw [if_neg (by omega)])), (by first | rfl | (simp only [aI_I, aI_L, aI_Rf, aL_I, aL_L, aL_Rf, aR_I, aR_L, aR_Rf]; rw [if_neg (by omega)])), (by first | rfl | (simp only [aI_I, aI_L, aI_Rf, aL_I, aL_L, aL_Rf, aR_I, aR_L, aR_Rf]; rw [if_neg (by omega)])), (by first | rfl | (simp only [aI_I, aI_L, aI_Rf, aL_I, aL_L, aL_Rf, aR_I, aR_L, aR_Rf]; rw [if_neg (by omega)])), (by first | rfl | (simp only [aI_I, aI_L, aI_Rf, aL_I, aL_L, aL_Rf, aR_I, aR_L, aR_Rf]; rw [if_neg (by omega)])), (by first | rfl | (simp only [aI_I, aI_L, aI_Rf, aL_I, aL_L, aL_Rf, aR_I, aR_L, aR_Rf]; rw [if_neg (by omega)]))⟩) (fun _ => (by first | rfl | (simp only [aI_I, aI_L, aI_Rf, aL_I, aL_L, aL_Rf, aR_I, aR_L, aR_Rf]; rw [if_neg (by omega)]))) (fun _ => (by first | rfl | (simp only [aI_I, aI_L, aI_Rf, aL_I, aL_L, aL_Rf, aR_I, aR_L, aR_Rf]; rw [if_neg (by omega)]))) (fun _ => (by first | rfl | (simp only [aI_I, aI_L, aI_Rf, aL_I, aL_L, aL_Rf, aR_I, aR_L, aR_Rf]; rw [if_neg (by omega)]))) hj) (fun j hj _ => layM_eq (fun _ => (by first | rfl | (simp only [aI_I, aI_L, aI_Rf, aL_I, aL_L, aL_Rf, aR_I, aR_L, aR_Rf]; rw [if_neg (by omega)]))) (fun k h1 h2 _ => (by first | rfl | (simp only [aI_I, aI_L, aI_Rf, aL_I, aL_L, aL_Rf, aR_I, aR_L, aR_Rf]; rw [if_neg (by omega)]))) (fun k h1 h2 _ => (by first | rfl | (simp only [aI_I, aI_L, aI_Rf, aL_I, aL_L, aL_Rf, aR_I, aR_L, aR_Rf]; rw [if_neg (by omega)]))) hj) (fun n' hne => layD_eq (fun k h1 h2 => by have hnn : ¬ n' = n := (by omega); simp only [aI_I, aI_L, aI_Rf, aL_I, aL_L, aL_Rf, aR_I, aR_L, aR_Rf]; split <;> simp [upd, hnn, *]) (by first | rfl | (simp only [aI_I, aI_L, aI_Rf, aL_I, aL_L, aL_Rf, aR_I, aR_L, aR_Rf]; rw [if_neg (by omega)]))))
  rw [lay_D]; simp [layD, layX, aI_I, aI_L, aI_Rf, aL_I, aL_L, aL_Rf, aR_I, aR_L, aR_Rf, upd, hK]
theorem wσ_dx9_0 {AC : Nat → ClassId} {Γ : Ev} {σ : St} {n : Nat} (hK : Γ.K n = 9) (v : Int32) : wS (wσ AC Γ σ) (344 + n) (.inr (9, [.int (σ.I 6 n), .int (σ.I 7 n), .int (σ.I 8 n), .int (σ.I 9 n), .int v, .int (σ.I 11 n)])) = wσ AC Γ (σ.sI 10 n v) := by
  refine wσ_set ?_ (fun i hi => lay_eq hi (fun j _ _ => lay0_eq (by first | rfl | (simp only [aI_I, aI_L, aI_Rf, aL_I, aL_L, aL_Rf, aR_I, aR_L, aR_Rf]; rw [if_neg (by omega)])) (by first | rfl | (simp only [aI_I, aI_L, aI_Rf, aL_I, aL_L, aL_Rf, aR_I, aR_L, aR_Rf]; rw [if_neg (by omega)]))) (fun p' j hp' hj hne => layP_eq (fun _ => ⟨(by first | rfl | (simp only [aI_I, aI_L, aI_Rf, aL_I, aL_L, aL_Rf, aR_I, aR_L, aR_Rf]; rw [if_neg (by omega)])), (by first | rfl | (simp only [aI_I, aI_L, aI_Rf, aL_I, aL_L, aL_Rf, aR_I, aR_L, aR_Rf]; rw [if_neg (by omega)])), (by first | rfl | (simp only [aI_I, aI_L, aI_Rf, aL_I, aL_L, aL_Rf, aR_I, aR_L, aR_Rf]; rw [if_neg (by omega)])), (by first | rfl | (simp only [aI_I, aI_L, aI_Rf, aL_I, aL_L, aL_Rf, aR_I, aR_L, aR_Rf]; rw [if_neg (by omega)])), (by first | rfl | (simp only [aI_I, aI_L, aI_Rf, aL_I, aL_L, aL_Rf, aR_I, aR_L, aR_Rf]; rw [if_neg (by omega)])), (by first | rfl | (simp only [aI_I, aI_L, aI_Rf, aL_I, aL_L, aL_Rf, aR_I, aR_L, aR_Rf]; rw [if_neg (by omega)]))⟩) (fun _ => (by first | rfl | (simp only [aI_I, aI_L, aI_Rf, aL_I, aL_L, aL_Rf, aR_I, aR_L, aR_Rf]; rw [if_neg (by omega)]))) (fun _ => (by first | rfl | (simp only [aI_I, aI_L, aI_Rf, aL_I, aL_L, aL_Rf, aR_I, aR_L, aR_Rf]; rw [if_neg (by omega)]))) (fun _ => (by first | rfl | (simp only [aI_I, aI_L, aI_Rf, aL_I, aL_L, aL_Rf, aR_I, aR_L, aR_Rf]; rw [if_neg (by omega)]))) hj) (fun j hj _ => layM_eq (fun _ => (by first | rfl | (simp only [aI_I, aI_L, aI_Rf, aL_I, aL_L, aL_Rf, aR_I, aR_L, aR_Rf]; rw [if_neg (by omega)]))) (fun k h1 h2 _ => (by first | rfl | (simp only [aI_I, aI_L, aI_Rf, aL_I, aL_L, aL_Rf, aR_I, aR_L, aR_Rf]; rw [if_neg (by omega)]))) (fun k h1 h2 _ => (by first | rfl | (simp only [aI_I, aI_L, aI_Rf, aL_I, aL_L, aL_Rf, aR_I, aR_L, aR_Rf]; rw [if_neg (by omega)]))) hj) (fun n' hne => layD_eq (fun k h1 h2 => by have hnn : ¬ n' = n := (by omega); simp only [aI_I, aI_L, aI_Rf, aL_I, aL_L, aL_Rf, aR_I, aR_L, aR_Rf]; split <;> simp [upd, hnn, *]) (by first | rfl | (simp only [aI_I, aI_L, aI_Rf, aL_I, aL_L, aL_Rf, aR_I, aR_L, aR_Rf]; rw [if_neg (by omega)]))))
  rw [lay_D]; simp [layD, layX, aI_I, aI_L, aI_Rf, aL_I, aL_L, aL_Rf, aR_I, aR_L, aR_Rf, upd, hK]
theorem wσ_dx9_1 {AC : Nat → ClassId} {Γ : Ev} {σ : St} {n : Nat} (hK : Γ.K n = 9) (v : Int32) : wS (wσ AC Γ σ) (344 + n) (.inr (9, [.int (σ.I 6 n), .int (σ.I 7 n), .int (σ.I 8 n), .int (σ.I 9 n), .int (σ.I 10 n), .int v])) = wσ AC Γ (σ.sI 11 n v) := by
  refine wσ_set ?_ (fun i hi => lay_eq hi (fun j _ _ => lay0_eq (by first | rfl | (simp only [aI_I, aI_L, aI_Rf, aL_I, aL_L, aL_Rf, aR_I, aR_L, aR_Rf]; rw [if_neg (by omega)])) (by first | rfl | (simp only [aI_I, aI_L, aI_Rf, aL_I, aL_L, aL_Rf, aR_I, aR_L, aR_Rf]; rw [if_neg (by omega)]))) (fun p' j hp' hj hne => layP_eq (fun _ => ⟨(by first | rfl | (simp only [aI_I, aI_L, aI_Rf, aL_I, aL_L, aL_Rf, aR_I, aR_L, aR_Rf]; rw [if_neg (by omega)])), (by first | rfl | (simp only [aI_I, aI_L, aI_Rf, aL_I, aL_L, aL_Rf, aR_I, aR_L, aR_Rf]; rw [if_neg (by omega)])), (by first | rfl | (simp only [aI_I, aI_L, aI_Rf, aL_I, aL_L, aL_Rf, aR_I, aR_L, aR_Rf]; rw [if_neg (by omega)])), (by first | rfl | (simp only [aI_I, aI_L, aI_Rf, aL_I, aL_L, aL_Rf, aR_I, aR_L, aR_Rf]; rw [if_neg (by omega)])), (by first | rfl | (simp only [aI_I, aI_L, aI_Rf, aL_I, aL_L, aL_Rf, aR_I, aR_L, aR_Rf]; rw [if_neg (by omega)])), (by first | rfl | (simp only [aI_I, aI_L, aI_Rf, aL_I, aL_L, aL_Rf, aR_I, aR_L, aR_Rf]; rw [if_neg (by omega)]))⟩) (fun _ => (by first | rfl | (simp only [aI_I, aI_L, aI_Rf, aL_I, aL_L, aL_Rf, aR_I, aR_L, aR_Rf]; rw [if_neg (by omega)]))) (fun _ => (by first | rfl | (simp only [aI_I, aI_L, aI_Rf, aL_I, aL_L, aL_Rf, aR_I, aR_L, aR_Rf]; rw [if_neg (by omega)]))) (fun _ => (by first | rfl | (simp only [aI_I, aI_L, aI_Rf, aL_I, aL_L, aL_Rf, aR_I, aR_L, aR_Rf]; rw [if_neg (by omega)]))) hj) (fun j hj _ => layM_eq (fun _ => (by first | rfl | (simp only [aI_I, aI_L, aI_Rf, aL_I, aL_L, aL_Rf, aR_I, aR_L, aR_Rf]; rw [if_neg (by omega)]))) (fun k h1 h2 _ => (by first | rfl | (simp only [aI_I, aI_L, aI_Rf, aL_I, aL_L, aL_Rf, aR_I, aR_L, aR_Rf]; rw [if_neg (by omega)]))) (fun k h1 h2 _ => (by first | rfl | (simp only [aI_I, aI_L, aI_Rf, aL_I, aL_L, aL_Rf, aR_I, aR_L, aR_Rf]; rw [if_neg (by omega)]))) hj) (fun n' hne => layD_eq (fun k h1 h2 => by have hnn : ¬ n' = n := (by omega); simp only [aI_I, aI_L, aI_Rf, aL_I, aL_L, aL_Rf, aR_I, aR_L, aR_Rf]; split <;> simp [upd, hnn, *]) (by first | rfl | (simp only [aI_I, aI_L, aI_Rf, aL_I, aL_L, aL_Rf, aR_I, aR_L, aR_Rf]; rw [if_neg (by omega)]))))
  rw [lay_D]; simp [layD, layX, aI_I, aI_L, aI_Rf, aL_I, aL_L, aL_Rf, aR_I, aR_L, aR_Rf, upd, hK]
theorem lay_D10 {AC : Nat → ClassId} {Γ : Ev} {σ : St} {n : Nat} (hK : Γ.K n = 10) : lay AC Γ σ (344 + n) = .inr (10, [.int (σ.I 6 n), .int (σ.I 7 n), .int (σ.I 8 n), .int (σ.I 9 n), .int (σ.I 10 n), .int (σ.I 11 n)]) := by
  rw [lay_D]; simp [layD, layX, hK]
theorem wσ_dnum10 {AC : Nat → ClassId} {Γ : Ev} {σ : St} {n : Nat} (hK : Γ.K n = 10) (v : Int32) : wS (wσ AC Γ σ) (344 + n) (.inr (10, [.int v, .int (σ.I 7 n), .int (σ.I 8 n), .int (σ.I 9 n), .int (σ.I 10 n), .int (σ.I 11 n)])) = wσ AC Γ (σ.sI 6 n v) := by
  refine wσ_set ?_ (fun i hi => lay_eq hi (fun j _ _ => lay0_eq (by first | rfl | (simp only [aI_I, aI_L, aI_Rf, aL_I, aL_L, aL_Rf, aR_I, aR_L, aR_Rf]; rw [if_neg (by omega)])) (by first | rfl | (simp only [aI_I, aI_L, aI_Rf, aL_I, aL_L, aL_Rf, aR_I, aR_L, aR_Rf]; rw [if_neg (by omega)]))) (fun p' j hp' hj hne => layP_eq (fun _ => ⟨(by first | rfl | (simp only [aI_I, aI_L, aI_Rf, aL_I, aL_L, aL_Rf, aR_I, aR_L, aR_Rf]; rw [if_neg (by omega)])), (by first | rfl | (simp only [aI_I, aI_L, aI_Rf, aL_I, aL_L, aL_Rf, aR_I, aR_L, aR_Rf]; rw [if_neg (by omega)])), (by first | rfl | (simp only [aI_I, aI_L, aI_Rf, aL_I, aL_L, aL_Rf, aR_I, aR_L, aR_Rf]; rw [if_neg (by omega)])), (by first | rfl | (simp only [aI_I, aI_L, aI_Rf, aL_I, aL_L, aL_Rf, aR_I, aR_L, aR_Rf]; rw [if_neg (by omega)])), (by first | rfl | (simp only [aI_I, aI_L, aI_Rf, aL_I, aL_L, aL_Rf, aR_I, aR_L, aR_Rf]; rw [if_neg (by omega)])), (by first | rfl | (simp only [aI_I, aI_L, aI_Rf, aL_I, aL_L, aL_Rf, aR_I, aR_L, aR_Rf]; rw [if_neg (by omega)]))⟩) (fun _ => (by first | rfl | (simp only [aI_I, aI_L, aI_Rf, aL_I, aL_L, aL_Rf, aR_I, aR_L, aR_Rf]; rw [if_neg (by omega)]))) (fun _ => (by first | rfl | (simp only [aI_I, aI_L, aI_Rf, aL_I, aL_L, aL_Rf, aR_I, aR_L, aR_Rf]; rw [if_neg (by omega)]))) (fun _ => (by first | rfl | (simp only [aI_I, aI_L, aI_Rf, aL_I, aL_L, aL_Rf, aR_I, aR_L, aR_Rf]; rw [if_neg (by omega)]))) hj) (fun j hj _ => layM_eq (fun _ => (by first | rfl | (simp only [aI_I, aI_L, aI_Rf, aL_I, aL_L, aL_Rf, aR_I, aR_L, aR_Rf]; rw [if_neg (by omega)]))) (fun k h1 h2 _ => (by first | rfl | (simp only [aI_I, aI_L, aI_Rf, aL_I, aL_L, aL_Rf, aR_I, aR_L, aR_Rf]; rw [if_neg (by omega)]))) (fun k h1 h2 _ => (by first | rfl | (simp only [aI_I, aI_L, aI_Rf, aL_I, aL_L, aL_Rf, aR_I, aR_L, aR_Rf]; rw [if_neg (by omega)]))) hj) (fun n' hne => layD_eq (fun k h1 h2 => by have hnn : ¬ n' = n := (by omega); simp only [aI_I, aI_L, aI_Rf, aL_I, aL_L, aL_Rf, aR_I, aR_L, aR_Rf]; split <;> simp [upd, hnn, *]) (by first | rfl | (simp only [aI_I, aI_L, aI_Rf, aL_I, aL_L, aL_Rf, aR_I, aR_L, aR_Rf]; rw [if_neg (by omega)]))))
  rw [lay_D]; simp [layD, layX, aI_I, aI_L, aI_Rf, aL_I, aL_L, aL_Rf, aR_I, aR_L, aR_Rf, upd, hK]
theorem wσ_drec10 {AC : Nat → ClassId} {Γ : Ev} {σ : St} {n : Nat} (hK : Γ.K n = 10) (v : Int32) : wS (wσ AC Γ σ) (344 + n) (.inr (10, [.int (σ.I 6 n), .int v, .int (σ.I 8 n), .int (σ.I 9 n), .int (σ.I 10 n), .int (σ.I 11 n)])) = wσ AC Γ (σ.sI 7 n v) := by
  refine wσ_set ?_ (fun i hi => lay_eq hi (fun j _ _ => lay0_eq (by first | rfl | (simp only [aI_I, aI_L, aI_Rf, aL_I, aL_L, aL_Rf, aR_I, aR_L, aR_Rf]; rw [if_neg (by omega)])) (by first | rfl | (simp only [aI_I, aI_L, aI_Rf, aL_I, aL_L, aL_Rf, aR_I, aR_L, aR_Rf]; rw [if_neg (by omega)]))) (fun p' j hp' hj hne => layP_eq (fun _ => ⟨(by first | rfl | (simp only [aI_I, aI_L, aI_Rf, aL_I, aL_L, aL_Rf, aR_I, aR_L, aR_Rf]; rw [if_neg (by omega)])), (by first | rfl | (simp only [aI_I, aI_L, aI_Rf, aL_I, aL_L, aL_Rf, aR_I, aR_L, aR_Rf]; rw [if_neg (by omega)])), (by first | rfl | (simp only [aI_I, aI_L, aI_Rf, aL_I, aL_L, aL_Rf, aR_I, aR_L, aR_Rf]; rw [if_neg (by omega)])), (by first | rfl | (simp only [aI_I, aI_L, aI_Rf, aL_I, aL_L, aL_Rf, aR_I, aR_L, aR_Rf]; rw [if_neg (by omega)])), (by first | rfl | (simp only [aI_I, aI_L, aI_Rf, aL_I, aL_L, aL_Rf, aR_I, aR_L, aR_Rf]; rw [if_neg (by omega)])), (by first | rfl | (simp only [aI_I, aI_L, aI_Rf, aL_I, aL_L, aL_Rf, aR_I, aR_L, aR_Rf]; rw [if_neg (by omega)]))⟩) (fun _ => (by first | rfl | (simp only [aI_I, aI_L, aI_Rf, aL_I, aL_L, aL_Rf, aR_I, aR_L, aR_Rf]; rw [if_neg (by omega)]))) (fun _ => (by first | rfl | (simp only [aI_I, aI_L, aI_Rf, aL_I, aL_L, aL_Rf, aR_I, aR_L, aR_Rf]; rw [if_neg (by omega)]))) (fun _ => (by first | rfl | (simp only [aI_I, aI_L, aI_Rf, aL_I, aL_L, aL_Rf, aR_I, aR_L, aR_Rf]; rw [if_neg (by omega)]))) hj) (fun j hj _ => layM_eq (fun _ => (by first | rfl | (simp only [aI_I, aI_L, aI_Rf, aL_I, aL_L, aL_Rf, aR_I, aR_L, aR_Rf]; rw [if_neg (by omega)]))) (fun k h1 h2 _ => (by first | rfl | (simp only [aI_I, aI_L, aI_Rf, aL_I, aL_L, aL_Rf, aR_I, aR_L, aR_Rf]; rw [if_neg (by omega)]))) (fun k h1 h2 _ => (by first | rfl | (simp only [aI_I, aI_L, aI_Rf, aL_I, aL_L, aL_Rf, aR_I, aR_L, aR_Rf]; rw [if_neg (by omega)]))) hj) (fun n' hne => layD_eq (fun k h1 h2 => by have hnn : ¬ n' = n := (by omega); simp only [aI_I, aI_L, aI_Rf, aL_I, aL_L, aL_Rf, aR_I, aR_L, aR_Rf]; split <;> simp [upd, hnn, *]) (by first | rfl | (simp only [aI_I, aI_L, aI_Rf, aL_I, aL_L, aL_Rf, aR_I, aR_L, aR_Rf]; rw [if_neg (by omega)]))))
  rw [lay_D]; simp [layD, layX, aI_I, aI_L, aI_Rf, aL_I, aL_L, aL_Rf, aR_I, aR_L, aR_Rf, upd, hK]
theorem wσ_dfact10 {AC : Nat → ClassId} {Γ : Ev} {σ : St} {n : Nat} (hK : Γ.K n = 10) (v : Int32) : wS (wσ AC Γ σ) (344 + n) (.inr (10, [.int (σ.I 6 n), .int (σ.I 7 n), .int v, .int (σ.I 9 n), .int (σ.I 10 n), .int (σ.I 11 n)])) = wσ AC Γ (σ.sI 8 n v) := by
  refine wσ_set ?_ (fun i hi => lay_eq hi (fun j _ _ => lay0_eq (by first | rfl | (simp only [aI_I, aI_L, aI_Rf, aL_I, aL_L, aL_Rf, aR_I, aR_L, aR_Rf]; rw [if_neg (by omega)])) (by first | rfl | (simp only [aI_I, aI_L, aI_Rf, aL_I, aL_L, aL_Rf, aR_I, aR_L, aR_Rf]; rw [if_neg (by omega)]))) (fun p' j hp' hj hne => layP_eq (fun _ => ⟨(by first | rfl | (simp only [aI_I, aI_L, aI_Rf, aL_I, aL_L, aL_Rf, aR_I, aR_L, aR_Rf]; rw [if_neg (by omega)])), (by first | rfl | (simp only [aI_I, aI_L, aI_Rf, aL_I, aL_L, aL_Rf, aR_I, aR_L, aR_Rf]; rw [if_neg (by omega)])), (by first | rfl | (simp only [aI_I, aI_L, aI_Rf, aL_I, aL_L, aL_Rf, aR_I, aR_L, aR_Rf]; rw [if_neg (by omega)])), (by first | rfl | (simp only [aI_I, aI_L, aI_Rf, aL_I, aL_L, aL_Rf, aR_I, aR_L, aR_Rf]; rw [if_neg (by omega)])), (by first | rfl | (simp only [aI_I, aI_L, aI_Rf, aL_I, aL_L, aL_Rf, aR_I, aR_L, aR_Rf]; rw [if_neg (by omega)])), (by first | rfl | (simp only [aI_I, aI_L, aI_Rf, aL_I, aL_L, aL_Rf, aR_I, aR_L, aR_Rf]; rw [if_neg (by omega)]))⟩) (fun _ => (by first | rfl | (simp only [aI_I, aI_L, aI_Rf, aL_I, aL_L, aL_Rf, aR_I, aR_L, aR_Rf]; rw [if_neg (by omega)]))) (fun _ => (by first | rfl | (simp only [aI_I, aI_L, aI_Rf, aL_I, aL_L, aL_Rf, aR_I, aR_L, aR_Rf]; rw [if_neg (by omega)]))) (fun _ => (by first | rfl | (simp only [aI_I, aI_L, aI_Rf, aL_I, aL_L, aL_Rf, aR_I, aR_L, aR_Rf]; rw [if_neg (by omega)]))) hj) (fun j hj _ => layM_eq (fun _ => (by first | rfl | (simp only [aI_I, aI_L, aI_Rf, aL_I, aL_L, aL_Rf, aR_I, aR_L, aR_Rf]; rw [if_neg (by omega)]))) (fun k h1 h2 _ => (by first | rfl | (simp only [aI_I, aI_L, aI_Rf, aL_I, aL_L, aL_Rf, aR_I, aR_L, aR_Rf]; rw [if_neg (by omega)]))) (fun k h1 h2 _ => (by first | rfl | (simp only [aI_I, aI_L, aI_Rf, aL_I, aL_L, aL_Rf, aR_I, aR_L, aR_Rf]; rw [if_neg (by omega)]))) hj) (fun n' hne => layD_eq (fun k h1 h2 => by have hnn : ¬ n' = n := (by omega); simp only [aI_I, aI_L, aI_Rf, aL_I, aL_L, aL_Rf, aR_I, aR_L, aR_Rf]; split <;> simp [upd, hnn, *]) (by first | rfl | (simp only [aI_I, aI_L, aI_Rf, aL_I, aL_L, aL_Rf, aR_I, aR_L, aR_Rf]; rw [if_neg (by omega)]))))
  rw [lay_D]; simp [layD, layX, aI_I, aI_L, aI_Rf, aL_I, aL_L, aL_Rf, aR_I, aR_L, aR_Rf, upd, hK]
theorem wσ_dout10 {AC : Nat → ClassId} {Γ : Ev} {σ : St} {n : Nat} (hK : Γ.K n = 10) (v : Int32) : wS (wσ AC Γ σ) (344 + n) (.inr (10, [.int (σ.I 6 n), .int (σ.I 7 n), .int (σ.I 8 n), .int v, .int (σ.I 10 n), .int (σ.I 11 n)])) = wσ AC Γ (σ.sI 9 n v) := by
  refine wσ_set ?_ (fun i hi => lay_eq hi (fun j _ _ => lay0_eq (by first | rfl | (simp only [aI_I, aI_L, aI_Rf, aL_I, aL_L, aL_Rf, aR_I, aR_L, aR_Rf]; rw [if_neg (by omega)])) (by first | rfl | (simp only [aI_I, aI_L, aI_Rf, aL_I, aL_L, aL_Rf, aR_I, aR_L, aR_Rf]; rw [if_neg (by omega)]))) (fun p' j hp' hj hne => layP_eq (fun _ => ⟨(by first | rfl | (simp only [aI_I, aI_L, aI_Rf, aL_I, aL_L, aL_Rf, aR_I, aR_L, aR_Rf]; rw [if_neg (by omega)])), (by first | rfl | (simp only [aI_I, aI_L, aI_Rf, aL_I, aL_L, aL_Rf, aR_I, aR_L, aR_Rf]; rw [if_neg (by omega)])), (by first | rfl | (simp only [aI_I, aI_L, aI_Rf, aL_I, aL_L, aL_Rf, aR_I, aR_L, aR_Rf]; rw [if_neg (by omega)])), (by first | rfl | (simp only [aI_I, aI_L, aI_Rf, aL_I, aL_L, aL_Rf, aR_I, aR_L, aR_Rf]; rw [if_neg (by omega)])), (by first | rfl | (simp only [aI_I, aI_L, aI_Rf, aL_I, aL_L, aL_Rf, aR_I, aR_L, aR_Rf]; rw [if_neg (by omega)])), (by first | rfl | (simp only [aI_I, aI_L, aI_Rf, aL_I, aL_L, aL_Rf, aR_I, aR_L, aR_Rf]; rw [if_neg (by omega)]))⟩) (fun _ => (by first | rfl | (simp only [aI_I, aI_L, aI_Rf, aL_I, aL_L, aL_Rf, aR_I, aR_L, aR_Rf]; rw [if_neg (by omega)]))) (fun _ => (by first | rfl | (simp only [aI_I, aI_L, aI_Rf, aL_I, aL_L, aL_Rf, aR_I, aR_L, aR_Rf]; rw [if_neg (by omega)]))) (fun _ => (by first | rfl | (simp only [aI_I, aI_L, aI_Rf, aL_I, aL_L, aL_Rf, aR_I, aR_L, aR_Rf]; rw [if_neg (by omega)]))) hj) (fun j hj _ => layM_eq (fun _ => (by first | rfl | (simp only [aI_I, aI_L, aI_Rf, aL_I, aL_L, aL_Rf, aR_I, aR_L, aR_Rf]; rw [if_neg (by omega)]))) (fun k h1 h2 _ => (by first | rfl | (simp only [aI_I, aI_L, aI_Rf, aL_I, aL_L, aL_Rf, aR_I, aR_L, aR_Rf]; rw [if_neg (by omega)]))) (fun k h1 h2 _ => (by first | rfl | (simp only [aI_I, aI_L, aI_Rf, aL_I, aL_L, aL_Rf, aR_I, aR_L, aR_Rf]; rw [if_neg (by omega)]))) hj) (fun n' hne => layD_eq (fun k h1 h2 => by have hnn : ¬ n' = n := (by omega); simp only [aI_I, aI_L, aI_Rf, aL_I, aL_L, aL_Rf, aR_I, aR_L, aR_Rf]; split <;> simp [upd, hnn, *]) (by first | rfl | (simp only [aI_I, aI_L, aI_Rf, aL_I, aL_L, aL_Rf, aR_I, aR_L, aR_Rf]; rw [if_neg (by omega)]))))
  rw [lay_D]; simp [layD, layX, aI_I, aI_L, aI_Rf, aL_I, aL_L, aL_Rf, aR_I, aR_L, aR_Rf, upd, hK]
theorem wσ_dx10_0 {AC : Nat → ClassId} {Γ : Ev} {σ : St} {n : Nat} (hK : Γ.K n = 10) (v : Int32) : wS (wσ AC Γ σ) (344 + n) (.inr (10, [.int (σ.I 6 n), .int (σ.I 7 n), .int (σ.I 8 n), .int (σ.I 9 n), .int v, .int (σ.I 11 n)])) = wσ AC Γ (σ.sI 10 n v) := by
  refine wσ_set ?_ (fun i hi => lay_eq hi (fun j _ _ => lay0_eq (by first | rfl | (simp only [aI_I, aI_L, aI_Rf, aL_I, aL_L, aL_Rf, aR_I, aR_L, aR_Rf]; rw [if_neg (by omega)])) (by first | rfl | (simp only [aI_I, aI_L, aI_Rf, aL_I, aL_L, aL_Rf, aR_I, aR_L, aR_Rf]; rw [if_neg (by omega)]))) (fun p' j hp' hj hne => layP_eq (fun _ => ⟨(by first | rfl | (simp only [aI_I, aI_L, aI_Rf, aL_I, aL_L, aL_Rf, aR_I, aR_L, aR_Rf]; rw [if_neg (by omega)])), (by first | rfl | (simp only [aI_I, aI_L, aI_Rf, aL_I, aL_L, aL_Rf, aR_I, aR_L, aR_Rf]; rw [if_neg (by omega)])), (by first | rfl | (simp only [aI_I, aI_L, aI_Rf, aL_I, aL_L, aL_Rf, aR_I, aR_L, aR_Rf]; rw [if_neg (by omega)])), (by first | rfl | (simp only [aI_I, aI_L, aI_Rf, aL_I, aL_L, aL_Rf, aR_I, aR_L, aR_Rf]; rw [if_neg (by omega)])), (by first | rfl | (simp only [aI_I, aI_L, aI_Rf, aL_I, aL_L, aL_Rf, aR_I, aR_L, aR_Rf]; rw [if_neg (by omega)])), (by first | rfl | (simp only [aI_I, aI_L, aI_Rf, aL_I, aL_L, aL_Rf, aR_I, aR_L, aR_Rf]; rw [if_neg (by omega)]))⟩) (fun _ => (by first | rfl | (simp only [aI_I, aI_L, aI_Rf, aL_I, aL_L, aL_Rf, aR_I, aR_L, aR_Rf]; rw [if_neg (by omega)]))) (fun _ => (by first | rfl | (simp only [aI_I, aI_L, aI_Rf, aL_I, aL_L, aL_Rf, aR_I, aR_L, aR_Rf]; rw [if_neg (by omega)]))) (fun _ => (by first | rfl | (simp only [aI_I, aI_L, aI_Rf, aL_I, aL_L, aL_Rf, aR_I, aR_L, aR_Rf]; rw [if_neg (by omega)]))) hj) (fun j hj _ => layM_eq (fun _ => (by first | rfl | (simp only [aI_I, aI_L, aI_Rf, aL_I, aL_L, aL_Rf, aR_I, aR_L, aR_Rf]; rw [if_neg (by omega)]))) (fun k h1 h2 _ => (by first | rfl | (simp only [aI_I, aI_L, aI_Rf, aL_I, aL_L, aL_Rf, aR_I, aR_L, aR_Rf]; rw [if_neg (by omega)]))) (fun k h1 h2 _ => (by first | rfl | (simp only [aI_I, aI_L, aI_Rf, aL_I, aL_L, aL_Rf, aR_I, aR_L, aR_Rf]; rw [if_neg (by omega)]))) hj) (fun n' hne => layD_eq (fun k h1 h2 => by have hnn : ¬ n' = n := (by omega); simp only [aI_I, aI_L, aI_Rf, aL_I, aL_L, aL_Rf, aR_I, aR_L, aR_Rf]; split <;> simp [upd, hnn, *]) (by first | rfl | (simp only [aI_I, aI_L, aI_Rf, aL_I, aL_L, aL_Rf, aR_I, aR_L, aR_Rf]; rw [if_neg (by omega)]))))
  rw [lay_D]; simp [layD, layX, aI_I, aI_L, aI_Rf, aL_I, aL_L, aL_Rf, aR_I, aR_L, aR_Rf, upd, hK]
theorem wσ_dx10_1 {AC : Nat → ClassId} {Γ : Ev} {σ : St} {n : Nat} (hK : Γ.K n = 10) (v : Int32) : wS (wσ AC Γ σ) (344 + n) (.inr (10, [.int (σ.I 6 n), .int (σ.I 7 n), .int (σ.I 8 n), .int (σ.I 9 n), .int (σ.I 10 n), .int v])) = wσ AC Γ (σ.sI 11 n v) := by
  refine wσ_set ?_ (fun i hi => lay_eq hi (fun j _ _ => lay0_eq (by first | rfl | (simp only [aI_I, aI_L, aI_Rf, aL_I, aL_L, aL_Rf, aR_I, aR_L, aR_Rf]; rw [if_neg (by omega)])) (by first | rfl | (simp only [aI_I, aI_L, aI_Rf, aL_I, aL_L, aL_Rf, aR_I, aR_L, aR_Rf]; rw [if_neg (by omega)]))) (fun p' j hp' hj hne => layP_eq (fun _ => ⟨(by first | rfl | (simp only [aI_I, aI_L, aI_Rf, aL_I, aL_L, aL_Rf, aR_I, aR_L, aR_Rf]; rw [if_neg (by omega)])), (by first | rfl | (simp only [aI_I, aI_L, aI_Rf, aL_I, aL_L, aL_Rf, aR_I, aR_L, aR_Rf]; rw [if_neg (by omega)])), (by first | rfl | (simp only [aI_I, aI_L, aI_Rf, aL_I, aL_L, aL_Rf, aR_I, aR_L, aR_Rf]; rw [if_neg (by omega)])), (by first | rfl | (simp only [aI_I, aI_L, aI_Rf, aL_I, aL_L, aL_Rf, aR_I, aR_L, aR_Rf]; rw [if_neg (by omega)])), (by first | rfl | (simp only [aI_I, aI_L, aI_Rf, aL_I, aL_L, aL_Rf, aR_I, aR_L, aR_Rf]; rw [if_neg (by omega)])), (by first | rfl | (simp only [aI_I, aI_L, aI_Rf, aL_I, aL_L, aL_Rf, aR_I, aR_L, aR_Rf]; rw [if_neg (by omega)]))⟩) (fun _ => (by first | rfl | (simp only [aI_I, aI_L, aI_Rf, aL_I, aL_L, aL_Rf, aR_I, aR_L, aR_Rf]; rw [if_neg (by omega)]))) (fun _ => (by first | rfl | (simp only [aI_I, aI_L, aI_Rf, aL_I, aL_L, aL_Rf, aR_I, aR_L, aR_Rf]; rw [if_neg (by omega)]))) (fun _ => (by first | rfl | (simp only [aI_I, aI_L, aI_Rf, aL_I, aL_L, aL_Rf, aR_I, aR_L, aR_Rf]; rw [if_neg (by omega)]))) hj) (fun j hj _ => layM_eq (fun _ => (by first | rfl | (simp only [aI_I, aI_L, aI_Rf, aL_I, aL_L, aL_Rf, aR_I, aR_L, aR_Rf]; rw [if_neg (by omega)]))) (fun k h1 h2 _ => (by first | rfl | (simp only [aI_I, aI_L, aI_Rf, aL_I, aL_L, aL_Rf, aR_I, aR_L, aR_Rf]; rw [if_neg (by omega)]))) (fun k h1 h2 _ => (by first | rfl | (simp only [aI_I, aI_L, aI_Rf, aL_I, aL_L, aL_Rf, aR_I, aR_L, aR_Rf]; rw [if_neg (by omega)]))) hj) (fun n' hne => layD_eq (fun k h1 h2 => by have hnn : ¬ n' = n := (by omega); simp only [aI_I, aI_L, aI_Rf, aL_I, aL_L, aL_Rf, aR_I, aR_L, aR_Rf]; split <;> simp [upd, hnn, *]) (by first | rfl | (simp only [aI_I, aI_L, aI_Rf, aL_I, aL_L, aL_Rf, aR_I, aR_L, aR_Rf]; rw [if_neg (by omega)]))))
  rw [lay_D]; simp [layD, layX, aI_I, aI_L, aI_Rf, aL_I, aL_L, aL_Rf, aR_I, aR_L, aR_Rf, upd, hK]
theorem lt_c {AC : Nat → ClassId} {Γ : Ev} {σ : St} {i : Nat} (h : i < 344) : i < (wσ AC Γ σ).1 := Nat.lt_of_lt_of_le h (Nat.le_add_right _ _)
theorem lt_P {AC : Nat → ClassId} {Γ : Ev} {σ : St} {p : Nat} (h : p < 80) : 4 + 4 * p < (wσ AC Γ σ).1 := lt_c (by omega)
theorem lt_sh {AC : Nat → ClassId} {Γ : Ev} {σ : St} {p : Nat} (h : p < 80) : 5 + 4 * p < (wσ AC Γ σ).1 := lt_c (by omega)
theorem lt_cr {AC : Nat → ClassId} {Γ : Ev} {σ : St} {p : Nat} (h : p < 80) : 6 + 4 * p < (wσ AC Γ σ).1 := lt_c (by omega)
theorem lt_am {AC : Nat → ClassId} {Γ : Ev} {σ : St} {p : Nat} (h : p < 80) : 7 + 4 * p < (wσ AC Γ σ).1 := lt_c (by omega)
theorem lt_D {AC : Nat → ClassId} {Γ : Ev} {σ : St} {n : Nat} (h : n < Γ.nd) : 344 + n < (wσ AC Γ σ).1 := Nat.add_lt_add_left h 344
theorem in_lt {x : Int32} {n : Nat} (h : vp_in x n) : x.toNatClampNeg < n := Nat.not_le.mp fun q => h (Or.inr q)
def pI (AC : Nat → ClassId) (Γ : Ev) (post : Int32 → St → Prop) : Option Value → Wst → Prop := fun o w => ∃ v σ', o = some (.int v) ∧ w = wσ AC Γ σ' ∧ post v σ'
def pL (AC : Nat → ClassId) (Γ : Ev) (post : Int64 → St → Prop) : Option Value → Wst → Prop := fun o w => ∃ v σ', o = some (.long v) ∧ w = wσ AC Γ σ' ∧ post v σ'
def pV (AC : Nat → ClassId) (Γ : Ev) (post : St → Prop) : Option Value → Wst → Prop := fun o w => ∃ σ', o = none ∧ w = wσ AC Γ σ' ∧ post σ'
def tX (AC : Nat → ClassId) (Γ : Ev) (thr : String → St → Prop) : String → Wst → Prop := fun c w => ∃ σ', w = wσ AC Γ σ' ∧ thr c σ'
theorem sw_1_7 (x : Int32) : (x.toInt < 1 ∨ 7 < x.toInt) ∨ x = 1 ∨ x = 2 ∨ x = 3 ∨ x = 4 ∨ x = 5 ∨ x = 6 ∨ x = 7 := by
  simp only [← Int32.toInt_inj]
  have e : (1 : Int32).toInt = 1 ∧ (2 : Int32).toInt = 2 ∧ (3 : Int32).toInt = 3 ∧ (4 : Int32).toInt = 4 ∧ (5 : Int32).toInt = 5 ∧ (6 : Int32).toInt = 6 ∧ (7 : Int32).toInt = 7 := by decide
  simp only [e]
  omega
theorem sw_0_7 (x : Int32) : (x.toInt < 0 ∨ 7 < x.toInt) ∨ x = 0 ∨ x = 1 ∨ x = 2 ∨ x = 3 ∨ x = 4 ∨ x = 5 ∨ x = 6 ∨ x = 7 := by
  simp only [← Int32.toInt_inj]
  have e : (0 : Int32).toInt = 0 ∧ (1 : Int32).toInt = 1 ∧ (2 : Int32).toInt = 2 ∧ (3 : Int32).toInt = 3 ∧ (4 : Int32).toInt = 4 ∧ (5 : Int32).toInt = 5 ∧ (6 : Int32).toInt = 6 ∧ (7 : Int32).toInt = 7 := by decide
  simp only [e]
  omega
theorem sw_0_19 (x : Int32) : (x.toInt < 0 ∨ 19 < x.toInt) ∨ x = 0 ∨ x = 1 ∨ x = 2 ∨ x = 3 ∨ x = 4 ∨ x = 5 ∨ x = 6 ∨ x = 7 ∨ x = 8 ∨ x = 9 ∨ x = 10 ∨ x = 11 ∨ x = 12 ∨ x = 13 ∨ x = 14 ∨ x = 15 ∨ x = 16 ∨ x = 17 ∨ x = 18 ∨ x = 19 := by
  simp only [← Int32.toInt_inj]
  have e : (0 : Int32).toInt = 0 ∧ (1 : Int32).toInt = 1 ∧ (2 : Int32).toInt = 2 ∧ (3 : Int32).toInt = 3 ∧ (4 : Int32).toInt = 4 ∧ (5 : Int32).toInt = 5 ∧ (6 : Int32).toInt = 6 ∧ (7 : Int32).toInt = 7 ∧ (8 : Int32).toInt = 8 ∧ (9 : Int32).toInt = 9 ∧ (10 : Int32).toInt = 10 ∧ (11 : Int32).toInt = 11 ∧ (12 : Int32).toInt = 12 ∧ (13 : Int32).toInt = 13 ∧ (14 : Int32).toInt = 14 ∧ (15 : Int32).toInt = 15 ∧ (16 : Int32).toInt = 16 ∧ (17 : Int32).toInt = 17 ∧ (18 : Int32).toInt = 18 ∧ (19 : Int32).toInt = 19 := by decide
  simp only [e]
  omega
end
section
/-! Rows for what is special here: a throw, a deed of any kind -/
section SPECIAL
variable {p : Program} {l : Launch} {e : Env} {R : Room} {s : State} {m : MethodId} {args : Array Value} {below : List Frame} {meth : Method} {c : Code} {ym : MethodName} {cc : ByteArray} {nL : Nat} {ret : Option FieldType} {D : va_G} {AC : Nat → ClassId} {lo : Nat}
  {post : Option Value → Wst → Prop} {thr : String → Wst → Prop} {w : Wst} {k n pc : Nat} {lv : List (Nat × Value)} {st : List Value}
theorem traces_off (hl : l.flags = pinnedFlags ++ [noTraceFlag]) : l.stackTraces = false := by
  unfold Launch.stackTraces
  rw [hl]
  decide +kernel
theorem g_throw {X : String} {names : List String} {ib il ic : Nat} {tx : String} (hX : Cx p s m args meth c ym cc nL ret [] D AC lo) (hl : l.flags = pinnedFlags ++ [noTraceFlag]) (hfit : Bundle.fit X = true) (hnames : ∀ n ∈ names, Bundle.fit n = true)
    (hall : (vx_atS ym.cls ic X names).all (fun z => decide (z ∈ tables_1) && ((goodWord z || nwOk z) && vx_ot z)) = true)
    (hk : Cond.classLink ym.cls ib X ∈ TT) (hini : Cond.initialized X ∈ TT) (hs : (ym.cls, il, tx) ∈ STRL)
    (d0 : decode cc pc = .ok (.new ib, 3)) (d3 : decode cc (pc + 3) = .ok (.dup, 1)) (d4 : decode cc (pc + 4) = .ok (.ldc il, 2)) (d6 : decode cc (pc + 6) = .ok (.invokespecial ic, 3)) (d9 : decode cc (pc + 9) = .ok (.athrow, 1))
    (hRf : names.length + 3 < R.frames) (hRl : (st.map fun v => v.category).sum + (13 * (names.length + 1) + 43) ≤ R.locals) (hp : thr X w) :
    G p l e R s m args below meth c nL D lo post thr w (k + 1) (n + 6) pc lv st := by
  intro H locs ls cells slots h
  have hw : ∀ z ∈ vx_atS ym.cls ic X names, z ∈ tables_1 ∧ (goodWord z = true ∨ nwOk z = true) ∧ vx_ot z = true := by
    intro z hz
    have := List.all_eq_true.mp hall z hz
    simp only [Bool.and_eq_true, Bool.or_eq_true, decide_eq_true_eq] at this
    exact this
  have hts : ∀ z ∈ vx_atS ym.cls ic X names, z.before args s = true := by
    intro z hz
    obtain ⟨h1, h2, -⟩ := hw z hz
    rcases h2 with g | g
    · exact hX.ts z (List.mem_filter.mpr ⟨List.mem_append_right _ h1, g⟩)
    · refine va_Nw.use ?_ (hX.2.1.2.1 z (List.mem_filter.mpr ⟨h1, g⟩))
      cases z <;> first | rfl | (simp [nwOk] at g; done)
  have hgood : ∀ z ∈ Cond.classLink ym.cls ib X :: Cond.initialized X :: vx_atS ym.cls ic X names, vx_ot z = true := by
    intro z hz
    rcases List.mem_cons.mp hz with e | hz
    · rw [e]; rfl
    · rcases List.mem_cons.mp hz with e | hz
      · rw [e]; rfl
      · exact (hw z hz).2.2
  obtain ⟨sa, hsa⟩ := hX.2.1.2.2.2.2 _ hs
  obtain ⟨hlv, hP, hS, hc, hsl⟩ := h
  refine W.imp (vx_throwS (Qc := fun _ _ _ _ => False) (XC := fun E st t => E = X ∧ wP D lo w t.heap ∧ va_S (loA lo) st.heap t.heap []) (free := loA lo) (mc := R.cells) (ms := R.slots) hX.1.1 hX.1.2.1 (traces_off hl) hX.own hfit hnames (hX.ts _ hk) (hX.ts _ hini) hsa hts hgood hX.2.1.2.2.1 hX.2.1.2.2.2.1 hS (hlv.1.trans hX.1.2.2.1.symm) d0 d3 d4 d6 d9 (hX.out _) hRf hRl (by omega) (by omega) hX.2.2.1 ?_ hS.2.2 (by omega) (by omega)) ?_
  · intro t _ h1 h2
    refine ⟨rfl, ⟨hP.1.kept (fun j q hq => h2 q.1 ((hP.1 j q hq).lt)), hP.2⟩, Nat.le_trans hS.1 h1, fun q hq hn => (h2 q (Nat.lt_of_lt_of_le hq hS.1)).trans (hS.2.1 q hq hn), fun _ z => by cases z⟩
  · intro t ht
    obtain ⟨o, a1, a2, a3⟩ := ht
    rcases a3 with ⟨z, -⟩ | ⟨q, rfl, E, ce, L, ⟨rfl, b1, b2⟩, b3, b4, b5, b6, b7, b8⟩
    · exact z.elim
    · exact ⟨.threw q, a1, a2, ⟨w, b1, b2, Or.inr ⟨q, E, ce, rfl, hp, b3, by rw [b4]; rfl, b5⟩⟩, L, b6, b7, b8⟩
theorem K_cases {z : Nat} (h : 2 ≤ z ∧ z ≤ 10) : z = 2 ∨ z = 3 ∨ z = 4 ∨ z = 5 ∨ z = 6 ∨ z = 7 ∨ z = 8 ∨ z = 9 ∨ z = 10 := by omega
theorem g_getD0 {idx d : Nat} {Γ : Ev} {σ : St} (hX : Cx p s m args meth c ym cc nL ret [] D AC lo) (hn : d < Γ.nd) (hK : 2 ≤ Γ.K d ∧ Γ.K d ≤ 10) (hl : Cond.fieldLink ym.cls idx "LandRegister$Deed" "number" "I" ∈ TT) (hd : decode cc pc = .ok (.getfield idx, 3)) (kk : G p l e R s m args below meth c nL D lo post thr (wσ AC Γ σ) k n (pc + 3) lv (.int (σ.I 6 d) :: st)) : G p l e R s m args below meth c nL D lo post thr (wσ AC Γ σ) k n pc lv (.ref (Γ.ad (344 + d)) :: st) := by
  rcases K_cases hK with h | h | h | h | h | h | h | h | h
  · exact g_getf (i := 344 + d) (kf := 0) hX (lt_D hn) rfl (lay_D2 h) rfl in_Fo (by decide) hl (Or.inl rfl) rfl hd kk
  · exact g_getf (i := 344 + d) (kf := 0) hX (lt_D hn) rfl (lay_D3 h) rfl in_Se (by decide) hl (Or.inl rfl) rfl hd kk
  · exact g_getf (i := 344 + d) (kf := 0) hX (lt_D hn) rfl (lay_D4 h) rfl in_Pl (by decide) hl (Or.inl rfl) rfl hd kk
  · exact g_getf (i := 344 + d) (kf := 0) hX (lt_D hn) rfl (lay_D5 h) rfl in_Re (by decide) hl (Or.inl rfl) rfl hd kk
  · exact g_getf (i := 344 + d) (kf := 0) hX (lt_D hn) rfl (lay_D6 h) rfl in_Rl (by decide) hl (Or.inl rfl) rfl hd kk
  · exact g_getf (i := 344 + d) (kf := 0) hX (lt_D hn) rfl (lay_D7 h) rfl in_Ca (by decide) hl (Or.inl rfl) rfl hd kk
  · exact g_getf (i := 344 + d) (kf := 0) hX (lt_D hn) rfl (lay_D8 h) rfl in_Li (by decide) hl (Or.inl rfl) rfl hd kk
  · exact g_getf (i := 344 + d) (kf := 0) hX (lt_D hn) rfl (lay_D9 h) rfl in_Sp (by decide) hl (Or.inl rfl) rfl hd kk
  · exact g_getf (i := 344 + d) (kf := 0) hX (lt_D hn) rfl (lay_D10 h) rfl in_Me (by decide) hl (Or.inl rfl) rfl hd kk
theorem g_putD0 {idx d : Nat} {Γ : Ev} {σ : St} {v : Int32} (hX : Cx p s m args meth c ym cc nL ret [] D AC lo) (hn : d < Γ.nd) (hK : 2 ≤ Γ.K d ∧ Γ.K d ≤ 10) (hl : Cond.fieldLink ym.cls idx "LandRegister$Deed" "number" "I" ∈ TT) (hd : decode cc pc = .ok (.putfield idx, 3)) (kk : G p l e R s m args below meth c nL D lo post thr (wσ AC Γ (σ.sI 6 d v)) k n (pc + 3) lv st) : G p l e R s m args below meth c nL D lo post thr (wσ AC Γ σ) k n pc lv (.int v :: .ref (Γ.ad (344 + d)) :: st) := by
  rcases K_cases hK with h | h | h | h | h | h | h | h | h
  · exact g_putf (i := 344 + d) (kf := 0) (ty := .int) hX (lt_D hn) rfl (lay_D2 h) rfl in_Fo ty_Fo nm_Fo (by decide) hl (Or.inl rfl) rfl (by decide +kernel) rfl rfl (by show _ < List.length _; simp) hd (wσ_dnum2 h v) kk
  · exact g_putf (i := 344 + d) (kf := 0) (ty := .int) hX (lt_D hn) rfl (lay_D3 h) rfl in_Se ty_Se nm_Se (by decide) hl (Or.inl rfl) rfl (by decide +kernel) rfl rfl (by show _ < List.length _; simp) hd (wσ_dnum3 h v) kk
  · exact g_putf (i := 344 + d) (kf := 0) (ty := .int) hX (lt_D hn) rfl (lay_D4 h) rfl in_Pl ty_Pl nm_Pl (by decide) hl (Or.inl rfl) rfl (by decide +kernel) rfl rfl (by show _ < List.length _; simp) hd (wσ_dnum4 h v) kk
  · exact g_putf (i := 344 + d) (kf := 0) (ty := .int) hX (lt_D hn) rfl (lay_D5 h) rfl in_Re ty_Re nm_Re (by decide) hl (Or.inl rfl) rfl (by decide +kernel) rfl rfl (by show _ < List.length _; simp) hd (wσ_dnum5 h v) kk
  · exact g_putf (i := 344 + d) (kf := 0) (ty := .int) hX (lt_D hn) rfl (lay_D6 h) rfl in_Rl ty_Rl nm_Rl (by decide) hl (Or.inl rfl) rfl (by decide +kernel) rfl rfl (by show _ < List.length _; simp) hd (wσ_dnum6 h v) kk
  · exact g_putf (i := 344 + d) (kf := 0) (ty := .int) hX (lt_D hn) rfl (lay_D7 h) rfl in_Ca ty_Ca nm_Ca (by decide) hl (Or.inl rfl) rfl (by decide +kernel) rfl rfl (by show _ < List.length _; simp) hd (wσ_dnum7 h v) kk
  · exact g_putf (i := 344 + d) (kf := 0) (ty := .int) hX (lt_D hn) rfl (lay_D8 h) rfl in_Li ty_Li nm_Li (by decide) hl (Or.inl rfl) rfl (by decide +kernel) rfl rfl (by show _ < List.length _; simp) hd (wσ_dnum8 h v) kk
  · exact g_putf (i := 344 + d) (kf := 0) (ty := .int) hX (lt_D hn) rfl (lay_D9 h) rfl in_Sp ty_Sp nm_Sp (by decide) hl (Or.inl rfl) rfl (by decide +kernel) rfl rfl (by show _ < List.length _; simp) hd (wσ_dnum9 h v) kk
  · exact g_putf (i := 344 + d) (kf := 0) (ty := .int) hX (lt_D hn) rfl (lay_D10 h) rfl in_Me ty_Me nm_Me (by decide) hl (Or.inl rfl) rfl (by decide +kernel) rfl rfl (by show _ < List.length _; simp) hd (wσ_dnum10 h v) kk
theorem g_getD1 {idx d : Nat} {Γ : Ev} {σ : St} (hX : Cx p s m args meth c ym cc nL ret [] D AC lo) (hn : d < Γ.nd) (hK : 2 ≤ Γ.K d ∧ Γ.K d ≤ 10) (hl : Cond.fieldLink ym.cls idx "LandRegister$Deed" "recordDay" "I" ∈ TT) (hd : decode cc pc = .ok (.getfield idx, 3)) (kk : G p l e R s m args below meth c nL D lo post thr (wσ AC Γ σ) k n (pc + 3) lv (.int (σ.I 7 d) :: st)) : G p l e R s m args below meth c nL D lo post thr (wσ AC Γ σ) k n pc lv (.ref (Γ.ad (344 + d)) :: st) := by
  rcases K_cases hK with h | h | h | h | h | h | h | h | h
  · exact g_getf (i := 344 + d) (kf := 1) hX (lt_D hn) rfl (lay_D2 h) rfl in_Fo (by decide) hl (Or.inl rfl) rfl hd kk
  · exact g_getf (i := 344 + d) (kf := 1) hX (lt_D hn) rfl (lay_D3 h) rfl in_Se (by decide) hl (Or.inl rfl) rfl hd kk
  · exact g_getf (i := 344 + d) (kf := 1) hX (lt_D hn) rfl (lay_D4 h) rfl in_Pl (by decide) hl (Or.inl rfl) rfl hd kk
  · exact g_getf (i := 344 + d) (kf := 1) hX (lt_D hn) rfl (lay_D5 h) rfl in_Re (by decide) hl (Or.inl rfl) rfl hd kk
  · exact g_getf (i := 344 + d) (kf := 1) hX (lt_D hn) rfl (lay_D6 h) rfl in_Rl (by decide) hl (Or.inl rfl) rfl hd kk
  · exact g_getf (i := 344 + d) (kf := 1) hX (lt_D hn) rfl (lay_D7 h) rfl in_Ca (by decide) hl (Or.inl rfl) rfl hd kk
  · exact g_getf (i := 344 + d) (kf := 1) hX (lt_D hn) rfl (lay_D8 h) rfl in_Li (by decide) hl (Or.inl rfl) rfl hd kk
  · exact g_getf (i := 344 + d) (kf := 1) hX (lt_D hn) rfl (lay_D9 h) rfl in_Sp (by decide) hl (Or.inl rfl) rfl hd kk
  · exact g_getf (i := 344 + d) (kf := 1) hX (lt_D hn) rfl (lay_D10 h) rfl in_Me (by decide) hl (Or.inl rfl) rfl hd kk
theorem g_putD1 {idx d : Nat} {Γ : Ev} {σ : St} {v : Int32} (hX : Cx p s m args meth c ym cc nL ret [] D AC lo) (hn : d < Γ.nd) (hK : 2 ≤ Γ.K d ∧ Γ.K d ≤ 10) (hl : Cond.fieldLink ym.cls idx "LandRegister$Deed" "recordDay" "I" ∈ TT) (hd : decode cc pc = .ok (.putfield idx, 3)) (kk : G p l e R s m args below meth c nL D lo post thr (wσ AC Γ (σ.sI 7 d v)) k n (pc + 3) lv st) : G p l e R s m args below meth c nL D lo post thr (wσ AC Γ σ) k n pc lv (.int v :: .ref (Γ.ad (344 + d)) :: st) := by
  rcases K_cases hK with h | h | h | h | h | h | h | h | h
  · exact g_putf (i := 344 + d) (kf := 1) (ty := .int) hX (lt_D hn) rfl (lay_D2 h) rfl in_Fo ty_Fo nm_Fo (by decide) hl (Or.inl rfl) rfl (by decide +kernel) rfl rfl (by show _ < List.length _; simp) hd (wσ_drec2 h v) kk
  · exact g_putf (i := 344 + d) (kf := 1) (ty := .int) hX (lt_D hn) rfl (lay_D3 h) rfl in_Se ty_Se nm_Se (by decide) hl (Or.inl rfl) rfl (by decide +kernel) rfl rfl (by show _ < List.length _; simp) hd (wσ_drec3 h v) kk
  · exact g_putf (i := 344 + d) (kf := 1) (ty := .int) hX (lt_D hn) rfl (lay_D4 h) rfl in_Pl ty_Pl nm_Pl (by decide) hl (Or.inl rfl) rfl (by decide +kernel) rfl rfl (by show _ < List.length _; simp) hd (wσ_drec4 h v) kk
  · exact g_putf (i := 344 + d) (kf := 1) (ty := .int) hX (lt_D hn) rfl (lay_D5 h) rfl in_Re ty_Re nm_Re (by decide) hl (Or.inl rfl) rfl (by decide +kernel) rfl rfl (by show _ < List.length _; simp) hd (wσ_drec5 h v) kk
  · exact g_putf (i := 344 + d) (kf := 1) (ty := .int) hX (lt_D hn) rfl (lay_D6 h) rfl in_Rl ty_Rl nm_Rl (by decide) hl (Or.inl rfl) rfl (by decide +kernel) rfl rfl (by show _ < List.length _; simp) hd (wσ_drec6 h v) kk
  · exact g_putf (i := 344 + d) (kf := 1) (ty := .int) hX (lt_D hn) rfl (lay_D7 h) rfl in_Ca ty_Ca nm_Ca (by decide) hl (Or.inl rfl) rfl (by decide +kernel) rfl rfl (by show _ < List.length _; simp) hd (wσ_drec7 h v) kk
  · exact g_putf (i := 344 + d) (kf := 1) (ty := .int) hX (lt_D hn) rfl (lay_D8 h) rfl in_Li ty_Li nm_Li (by decide) hl (Or.inl rfl) rfl (by decide +kernel) rfl rfl (by show _ < List.length _; simp) hd (wσ_drec8 h v) kk
  · exact g_putf (i := 344 + d) (kf := 1) (ty := .int) hX (lt_D hn) rfl (lay_D9 h) rfl in_Sp ty_Sp nm_Sp (by decide) hl (Or.inl rfl) rfl (by decide +kernel) rfl rfl (by show _ < List.length _; simp) hd (wσ_drec9 h v) kk
  · exact g_putf (i := 344 + d) (kf := 1) (ty := .int) hX (lt_D hn) rfl (lay_D10 h) rfl in_Me ty_Me nm_Me (by decide) hl (Or.inl rfl) rfl (by decide +kernel) rfl rfl (by show _ < List.length _; simp) hd (wσ_drec10 h v) kk
theorem g_getD2 {idx d : Nat} {Γ : Ev} {σ : St} (hX : Cx p s m args meth c ym cc nL ret [] D AC lo) (hn : d < Γ.nd) (hK : 2 ≤ Γ.K d ∧ Γ.K d ≤ 10) (hl : Cond.fieldLink ym.cls idx "LandRegister$Deed" "factDay" "I" ∈ TT) (hd : decode cc pc = .ok (.getfield idx, 3)) (kk : G p l e R s m args below meth c nL D lo post thr (wσ AC Γ σ) k n (pc + 3) lv (.int (σ.I 8 d) :: st)) : G p l e R s m args below meth c nL D lo post thr (wσ AC Γ σ) k n pc lv (.ref (Γ.ad (344 + d)) :: st) := by
  rcases K_cases hK with h | h | h | h | h | h | h | h | h
  · exact g_getf (i := 344 + d) (kf := 2) hX (lt_D hn) rfl (lay_D2 h) rfl in_Fo (by decide) hl (Or.inl rfl) rfl hd kk
  · exact g_getf (i := 344 + d) (kf := 2) hX (lt_D hn) rfl (lay_D3 h) rfl in_Se (by decide) hl (Or.inl rfl) rfl hd kk
  · exact g_getf (i := 344 + d) (kf := 2) hX (lt_D hn) rfl (lay_D4 h) rfl in_Pl (by decide) hl (Or.inl rfl) rfl hd kk
  · exact g_getf (i := 344 + d) (kf := 2) hX (lt_D hn) rfl (lay_D5 h) rfl in_Re (by decide) hl (Or.inl rfl) rfl hd kk
  · exact g_getf (i := 344 + d) (kf := 2) hX (lt_D hn) rfl (lay_D6 h) rfl in_Rl (by decide) hl (Or.inl rfl) rfl hd kk
  · exact g_getf (i := 344 + d) (kf := 2) hX (lt_D hn) rfl (lay_D7 h) rfl in_Ca (by decide) hl (Or.inl rfl) rfl hd kk
  · exact g_getf (i := 344 + d) (kf := 2) hX (lt_D hn) rfl (lay_D8 h) rfl in_Li (by decide) hl (Or.inl rfl) rfl hd kk
  · exact g_getf (i := 344 + d) (kf := 2) hX (lt_D hn) rfl (lay_D9 h) rfl in_Sp (by decide) hl (Or.inl rfl) rfl hd kk
  · exact g_getf (i := 344 + d) (kf := 2) hX (lt_D hn) rfl (lay_D10 h) rfl in_Me (by decide) hl (Or.inl rfl) rfl hd kk
theorem g_putD2 {idx d : Nat} {Γ : Ev} {σ : St} {v : Int32} (hX : Cx p s m args meth c ym cc nL ret [] D AC lo) (hn : d < Γ.nd) (hK : 2 ≤ Γ.K d ∧ Γ.K d ≤ 10) (hl : Cond.fieldLink ym.cls idx "LandRegister$Deed" "factDay" "I" ∈ TT) (hd : decode cc pc = .ok (.putfield idx, 3)) (kk : G p l e R s m args below meth c nL D lo post thr (wσ AC Γ (σ.sI 8 d v)) k n (pc + 3) lv st) : G p l e R s m args below meth c nL D lo post thr (wσ AC Γ σ) k n pc lv (.int v :: .ref (Γ.ad (344 + d)) :: st) := by
  rcases K_cases hK with h | h | h | h | h | h | h | h | h
  · exact g_putf (i := 344 + d) (kf := 2) (ty := .int) hX (lt_D hn) rfl (lay_D2 h) rfl in_Fo ty_Fo nm_Fo (by decide) hl (Or.inl rfl) rfl (by decide +kernel) rfl rfl (by show _ < List.length _; simp) hd (wσ_dfact2 h v) kk
  · exact g_putf (i := 344 + d) (kf := 2) (ty := .int) hX (lt_D hn) rfl (lay_D3 h) rfl in_Se ty_Se nm_Se (by decide) hl (Or.inl rfl) rfl (by decide +kernel) rfl rfl (by show _ < List.length _; simp) hd (wσ_dfact3 h v) kk
  · exact g_putf (i := 344 + d) (kf := 2) (ty := .int) hX (lt_D hn) rfl (lay_D4 h) rfl in_Pl ty_Pl nm_Pl (by decide) hl (Or.inl rfl) rfl (by decide +kernel) rfl rfl (by show _ < List.length _; simp) hd (wσ_dfact4 h v) kk
  · exact g_putf (i := 344 + d) (kf := 2) (ty := .int) hX (lt_D hn) rfl (lay_D5 h) rfl in_Re ty_Re nm_Re (by decide) hl (Or.inl rfl) rfl (by decide +kernel) rfl rfl (by show _ < List.length _; simp) hd (wσ_dfact5 h v) kk
  · exact g_putf (i := 344 + d) (kf := 2) (ty := .int) hX (lt_D hn) rfl (lay_D6 h) rfl in_Rl ty_Rl nm_Rl (by decide) hl (Or.inl rfl) rfl (by decide +kernel) rfl rfl (by show _ < List.length _; simp) hd (wσ_dfact6 h v) kk
  · exact g_putf (i := 344 + d) (kf := 2) (ty := .int) hX (lt_D hn) rfl (lay_D7 h) rfl in_Ca ty_Ca nm_Ca (by decide) hl (Or.inl rfl) rfl (by decide +kernel) rfl rfl (by show _ < List.length _; simp) hd (wσ_dfact7 h v) kk
  · exact g_putf (i := 344 + d) (kf := 2) (ty := .int) hX (lt_D hn) rfl (lay_D8 h) rfl in_Li ty_Li nm_Li (by decide) hl (Or.inl rfl) rfl (by decide +kernel) rfl rfl (by show _ < List.length _; simp) hd (wσ_dfact8 h v) kk
  · exact g_putf (i := 344 + d) (kf := 2) (ty := .int) hX (lt_D hn) rfl (lay_D9 h) rfl in_Sp ty_Sp nm_Sp (by decide) hl (Or.inl rfl) rfl (by decide +kernel) rfl rfl (by show _ < List.length _; simp) hd (wσ_dfact9 h v) kk
  · exact g_putf (i := 344 + d) (kf := 2) (ty := .int) hX (lt_D hn) rfl (lay_D10 h) rfl in_Me ty_Me nm_Me (by decide) hl (Or.inl rfl) rfl (by decide +kernel) rfl rfl (by show _ < List.length _; simp) hd (wσ_dfact10 h v) kk
theorem g_getD3 {idx d : Nat} {Γ : Ev} {σ : St} (hX : Cx p s m args meth c ym cc nL ret [] D AC lo) (hn : d < Γ.nd) (hK : 2 ≤ Γ.K d ∧ Γ.K d ≤ 10) (hl : Cond.fieldLink ym.cls idx "LandRegister$Deed" "outcome" "I" ∈ TT) (hd : decode cc pc = .ok (.getfield idx, 3)) (kk : G p l e R s m args below meth c nL D lo post thr (wσ AC Γ σ) k n (pc + 3) lv (.int (σ.I 9 d) :: st)) : G p l e R s m args below meth c nL D lo post thr (wσ AC Γ σ) k n pc lv (.ref (Γ.ad (344 + d)) :: st) := by
  rcases K_cases hK with h | h | h | h | h | h | h | h | h
  · exact g_getf (i := 344 + d) (kf := 3) hX (lt_D hn) rfl (lay_D2 h) rfl in_Fo (by decide) hl (Or.inl rfl) rfl hd kk
  · exact g_getf (i := 344 + d) (kf := 3) hX (lt_D hn) rfl (lay_D3 h) rfl in_Se (by decide) hl (Or.inl rfl) rfl hd kk
  · exact g_getf (i := 344 + d) (kf := 3) hX (lt_D hn) rfl (lay_D4 h) rfl in_Pl (by decide) hl (Or.inl rfl) rfl hd kk
  · exact g_getf (i := 344 + d) (kf := 3) hX (lt_D hn) rfl (lay_D5 h) rfl in_Re (by decide) hl (Or.inl rfl) rfl hd kk
  · exact g_getf (i := 344 + d) (kf := 3) hX (lt_D hn) rfl (lay_D6 h) rfl in_Rl (by decide) hl (Or.inl rfl) rfl hd kk
  · exact g_getf (i := 344 + d) (kf := 3) hX (lt_D hn) rfl (lay_D7 h) rfl in_Ca (by decide) hl (Or.inl rfl) rfl hd kk
  · exact g_getf (i := 344 + d) (kf := 3) hX (lt_D hn) rfl (lay_D8 h) rfl in_Li (by decide) hl (Or.inl rfl) rfl hd kk
  · exact g_getf (i := 344 + d) (kf := 3) hX (lt_D hn) rfl (lay_D9 h) rfl in_Sp (by decide) hl (Or.inl rfl) rfl hd kk
  · exact g_getf (i := 344 + d) (kf := 3) hX (lt_D hn) rfl (lay_D10 h) rfl in_Me (by decide) hl (Or.inl rfl) rfl hd kk
theorem g_putD3 {idx d : Nat} {Γ : Ev} {σ : St} {v : Int32} (hX : Cx p s m args meth c ym cc nL ret [] D AC lo) (hn : d < Γ.nd) (hK : 2 ≤ Γ.K d ∧ Γ.K d ≤ 10) (hl : Cond.fieldLink ym.cls idx "LandRegister$Deed" "outcome" "I" ∈ TT) (hd : decode cc pc = .ok (.putfield idx, 3)) (kk : G p l e R s m args below meth c nL D lo post thr (wσ AC Γ (σ.sI 9 d v)) k n (pc + 3) lv st) : G p l e R s m args below meth c nL D lo post thr (wσ AC Γ σ) k n pc lv (.int v :: .ref (Γ.ad (344 + d)) :: st) := by
  rcases K_cases hK with h | h | h | h | h | h | h | h | h
  · exact g_putf (i := 344 + d) (kf := 3) (ty := .int) hX (lt_D hn) rfl (lay_D2 h) rfl in_Fo ty_Fo nm_Fo (by decide) hl (Or.inl rfl) rfl (by decide +kernel) rfl rfl (by show _ < List.length _; simp) hd (wσ_dout2 h v) kk
  · exact g_putf (i := 344 + d) (kf := 3) (ty := .int) hX (lt_D hn) rfl (lay_D3 h) rfl in_Se ty_Se nm_Se (by decide) hl (Or.inl rfl) rfl (by decide +kernel) rfl rfl (by show _ < List.length _; simp) hd (wσ_dout3 h v) kk
  · exact g_putf (i := 344 + d) (kf := 3) (ty := .int) hX (lt_D hn) rfl (lay_D4 h) rfl in_Pl ty_Pl nm_Pl (by decide) hl (Or.inl rfl) rfl (by decide +kernel) rfl rfl (by show _ < List.length _; simp) hd (wσ_dout4 h v) kk
  · exact g_putf (i := 344 + d) (kf := 3) (ty := .int) hX (lt_D hn) rfl (lay_D5 h) rfl in_Re ty_Re nm_Re (by decide) hl (Or.inl rfl) rfl (by decide +kernel) rfl rfl (by show _ < List.length _; simp) hd (wσ_dout5 h v) kk
  · exact g_putf (i := 344 + d) (kf := 3) (ty := .int) hX (lt_D hn) rfl (lay_D6 h) rfl in_Rl ty_Rl nm_Rl (by decide) hl (Or.inl rfl) rfl (by decide +kernel) rfl rfl (by show _ < List.length _; simp) hd (wσ_dout6 h v) kk
  · exact g_putf (i := 344 + d) (kf := 3) (ty := .int) hX (lt_D hn) rfl (lay_D7 h) rfl in_Ca ty_Ca nm_Ca (by decide) hl (Or.inl rfl) rfl (by decide +kernel) rfl rfl (by show _ < List.length _; simp) hd (wσ_dout7 h v) kk
  · exact g_putf (i := 344 + d) (kf := 3) (ty := .int) hX (lt_D hn) rfl (lay_D8 h) rfl in_Li ty_Li nm_Li (by decide) hl (Or.inl rfl) rfl (by decide +kernel) rfl rfl (by show _ < List.length _; simp) hd (wσ_dout8 h v) kk
  · exact g_putf (i := 344 + d) (kf := 3) (ty := .int) hX (lt_D hn) rfl (lay_D9 h) rfl in_Sp ty_Sp nm_Sp (by decide) hl (Or.inl rfl) rfl (by decide +kernel) rfl rfl (by show _ < List.length _; simp) hd (wσ_dout9 h v) kk
  · exact g_putf (i := 344 + d) (kf := 3) (ty := .int) hX (lt_D hn) rfl (lay_D10 h) rfl in_Me ty_Me nm_Me (by decide) hl (Or.inl rfl) rfl (by decide +kernel) rfl rfl (by show _ < List.length _; simp) hd (wσ_dout10 h v) kk
theorem ca_2 : Cond.castable "LandRegister$Found" "LandRegister$Deed" ∈ NWL := nw_in 972 (by decide +kernel) (by decide +kernel)
theorem ca_3 : Cond.castable "LandRegister$Sell" "LandRegister$Deed" ∈ NWL := nw_in 978 (by decide +kernel) (by decide +kernel)
theorem ca_4 : Cond.castable "LandRegister$Pledge" "LandRegister$Deed" ∈ NWL := nw_in 975 (by decide +kernel) (by decide +kernel)
theorem ca_5 : Cond.castable "LandRegister$Rerank" "LandRegister$Deed" ∈ NWL := nw_in 977 (by decide +kernel) (by decide +kernel)
theorem ca_6 : Cond.castable "LandRegister$Release" "LandRegister$Deed" ∈ NWL := nw_in 976 (by decide +kernel) (by decide +kernel)
theorem ca_7 : Cond.castable "LandRegister$Caution" "LandRegister$Deed" ∈ NWL := nw_in 971 (by decide +kernel) (by decide +kernel)
theorem ca_8 : Cond.castable "LandRegister$Lift" "LandRegister$Deed" ∈ NWL := nw_in 973 (by decide +kernel) (by decide +kernel)
theorem ca_9 : Cond.castable "LandRegister$Split" "LandRegister$Deed" ∈ NWL := nw_in 979 (by decide +kernel) (by decide +kernel)
theorem ca_10 : Cond.castable "LandRegister$Merge" "LandRegister$Deed" ∈ NWL := nw_in 974 (by decide +kernel) (by decide +kernel)
theorem g_aastD {i d a : Nat} {Γ : Ev} {σ : St} {f : Nat → Option Nat} {x : Int32} {w' : Wst} (hX : Cx p s m args meth c ym cc nL ret [] D AC lo) (hi : i < (wσ AC Γ σ).1) (ha : (wσ AC Γ σ).2.1 i = a) (he : (wσ AC Γ σ).2.2 i = .inl (AC 3, 40, .inr (.inr (.inr (.inr f))))) (hn : d < Γ.nd) (hK : 2 ≤ Γ.K d ∧ Γ.K d ≤ 10) (hin : vp_in x 40) (hd : decode cc pc = .ok (.aastore, 1)) (hw : wS (wσ AC Γ σ) i (.inl (AC 3, 40, .inr (.inr (.inr (.inr (va_up f x.toNatClampNeg (some (Γ.ad (344 + d))))))))) = w') (kk : G p l e R s m args below meth c nL D lo post thr w' k n (pc + 1) lv st) : G p l e R s m args below meth c nL D lo post thr (wσ AC Γ σ) k n pc lv (.ref (Γ.ad (344 + d)) :: .int x :: .ref a :: st) := by
  rcases K_cases hK with h | h | h | h | h | h | h | h | h
  · exact g_aast (j := 344 + d) (r := ("LandRegister$Found", T_Fo, 6)) 3 hX hi ha he rfl ca_2 (lt_D hn) rfl (lay_D2 h) rfl hin hd hw kk
  · exact g_aast (j := 344 + d) (r := ("LandRegister$Sell", T_Se, 8)) 3 hX hi ha he rfl ca_3 (lt_D hn) rfl (lay_D3 h) rfl hin hd hw kk
  · exact g_aast (j := 344 + d) (r := ("LandRegister$Pledge", T_Pl, 7)) 3 hX hi ha he rfl ca_4 (lt_D hn) rfl (lay_D4 h) rfl hin hd hw kk
  · exact g_aast (j := 344 + d) (r := ("LandRegister$Rerank", T_Re, 8)) 3 hX hi ha he rfl ca_5 (lt_D hn) rfl (lay_D5 h) rfl hin hd hw kk
  · exact g_aast (j := 344 + d) (r := ("LandRegister$Release", T_Rl, 6)) 3 hX hi ha he rfl ca_6 (lt_D hn) rfl (lay_D6 h) rfl hin hd hw kk
  · exact g_aast (j := 344 + d) (r := ("LandRegister$Caution", T_Ca, 6)) 3 hX hi ha he rfl ca_7 (lt_D hn) rfl (lay_D7 h) rfl hin hd hw kk
  · exact g_aast (j := 344 + d) (r := ("LandRegister$Lift", T_Li, 6)) 3 hX hi ha he rfl ca_8 (lt_D hn) rfl (lay_D8 h) rfl hin hd hw kk
  · exact g_aast (j := 344 + d) (r := ("LandRegister$Split", T_Sp, 6)) 3 hX hi ha he rfl ca_9 (lt_D hn) rfl (lay_D9 h) rfl hin hd hw kk
  · exact g_aast (j := 344 + d) (r := ("LandRegister$Merge", T_Me, 6)) 3 hX hi ha he rfl ca_10 (lt_D hn) rfl (lay_D10 h) rfl hin hd hw kk
end SPECIAL
abbrev upX : List String := ["java/lang/RuntimeException", "java/lang/Exception"]
theorem fit_up : ∀ n ∈ upX, Bundle.fit n = true := by decide +kernel
theorem fit_IllegalArgumentException : Bundle.fit "java/lang/IllegalArgumentException" = true := by decide +kernel
set_option maxRecDepth 100000 in
set_option maxHeartbeats 4000000 in
theorem all_IllegalArgumentException : (vx_atS "LandRegister" 108 "java/lang/IllegalArgumentException" upX).all (fun z => decide (z ∈ tables_1) && ((goodWord z || nwOk z) && vx_ot z)) = true := by decide +kernel
theorem fit_IllegalStateException : Bundle.fit "java/lang/IllegalStateException" = true := by decide +kernel
set_option maxRecDepth 100000 in
set_option maxHeartbeats 4000000 in
theorem all_IllegalStateException : (vx_atS "LandRegister" 98 "java/lang/IllegalStateException" upX).all (fun z => decide (z ∈ tables_1) && ((goodWord z || nwOk z) && vx_ot z)) = true := by decide +kernel
theorem fit_IndexOutOfBoundsException : Bundle.fit "java/lang/IndexOutOfBoundsException" = true := by decide +kernel
set_option maxRecDepth 100000 in
set_option maxHeartbeats 4000000 in
theorem all_IndexOutOfBoundsException : (vx_atS "LandRegister" 151 "java/lang/IndexOutOfBoundsException" upX).all (fun z => decide (z ∈ tables_1) && ((goodWord z || nwOk z) && vx_ot z)) = true := by decide +kernel
end
