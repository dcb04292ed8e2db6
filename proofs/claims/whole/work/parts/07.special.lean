/-! Rows for what is special here: a throw, a deed of any kind -/
section SPECIAL
variable {p : Program} {l : Launch} {e : Env} {R : Room} {s : State} {m : MethodId} {args : Array Value} {below : List Frame} {meth : Method} {c : Code} {ym : MethodName} {cc : ByteArray} {nL : Nat} {ret : Option FieldType} {D : va_G} {AC : Nat → ClassId} {lo : Nat}
  {post : Option Value → Wst → Prop} {thr : String → Wst → Prop} {w : Wst} {k n pc : Nat} {lv : List (Nat × Value)} {st : List Value}
theorem traces_off (hl : l.flags = pinnedFlags ++ [noTraceFlag]) : l.stackTraces = false := by
  unfold Launch.stackTraces
  rw [hl]
  decide +kernel
theorem g_throw {X : String} {names : List String} {ib il ic : Nat} {tx : String} (hX : Cx p s m args meth c ym cc nL ret [] D AC lo) (hl : l.flags = pinnedFlags ++ [noTraceFlag]) (hfit : Bundle.fit X = true) (hnames : ∀ n ∈ names, Bundle.fit n = true)
    (hall : (vx_atS ym.cls ic X names).all (fun z => decide (z ∈ tables_1) && ((goodWord z || nwOk z) && vx_ot z)) = true)
    (hk : Cond.classLink ym.cls ib X ∈ TT) (hini : Cond.initialized X ∈ TT) (hs : (ym.cls, il, tx) ∈ STRL)
    (d0 : decode cc pc = .ok (.new ib, 3)) (d3 : decode cc (pc + 3) = .ok (.dup, 1)) (d4 : decode cc (pc + 4) = .ok (.ldc il, 2)) (d6 : decode cc (pc + 6) = .ok (.invokespecial ic, 3)) (d9 : decode cc (pc + 9) = .ok (.athrow, 1))
    (hRf : names.length + 3 < R.frames) (hRl : (st.map fun v => v.category).sum + (13 * (names.length + 1) + 43) ≤ R.locals) (hp : thr X w) :
    G p l e R s m args below meth c nL D lo post thr w (k + 1) (n + 6) pc lv st := by
  intro H locs ls cells slots h
  have hw : ∀ z ∈ vx_atS ym.cls ic X names, z ∈ tables_1 ∧ (goodWord z = true ∨ nwOk z = true) ∧ vx_ot z = true := by
    intro z hz
    have := List.all_eq_true.mp hall z hz
    simp only [Bool.and_eq_true, Bool.or_eq_true, decide_eq_true_eq] at this
    exact this
  have hts : ∀ z ∈ vx_atS ym.cls ic X names, z.before args s = true := by
    intro z hz
    obtain ⟨h1, h2, -⟩ := hw z hz
    rcases h2 with g | g
    · exact hX.ts z (List.mem_filter.mpr ⟨List.mem_append_right _ h1, g⟩)
    · refine va_Nw.use ?_ (hX.2.1.2.1 z (List.mem_filter.mpr ⟨h1, g⟩))
      cases z <;> first | rfl | (simp [nwOk] at g; done)
  have hgood : ∀ z ∈ Cond.classLink ym.cls ib X :: Cond.initialized X :: vx_atS ym.cls ic X names, vx_ot z = true := by
    intro z hz
    rcases List.mem_cons.mp hz with e | hz
    · rw [e]; rfl
    · rcases List.mem_cons.mp hz with e | hz
      · rw [e]; rfl
      · exact (hw z hz).2.2
  obtain ⟨sa, hsa⟩ := hX.2.1.2.2.2.2.1 _ hs
  obtain ⟨hlv, hP, hS, hc, hsl⟩ := h
  refine W.imp (vx_throwS (Qc := fun _ _ _ _ => False) (XC := fun E st t => E = X ∧ wP D lo w t.heap ∧ va_S (loA lo) st.heap t.heap []) (free := loA lo) (mc := R.cells) (ms := R.slots) hX.1.1 hX.1.2.1 (traces_off hl) hX.own hfit hnames (hX.ts _ hk) (hX.ts _ hini) hsa hts hgood hX.2.1.2.2.1 hX.2.1.2.2.2.1 hS (hlv.1.trans hX.1.2.2.1.symm) d0 d3 d4 d6 d9 (hX.out _) hRf hRl (by omega) (by omega) hX.2.2.1 ?_ hS.2.2 (by omega) (by omega)) ?_
  · intro t _ h1 h2
    refine ⟨rfl, ⟨hP.1.kept (fun j q hq => h2 q.1 ((hP.1 j q hq).lt)), hP.2⟩, Nat.le_trans hS.1 h1, fun q hq hn => (h2 q (Nat.lt_of_lt_of_le hq hS.1)).trans (hS.2.1 q hq hn), fun _ z => by cases z⟩
  · intro t ht
    obtain ⟨o, a1, a2, a3⟩ := ht
    rcases a3 with ⟨z, -⟩ | ⟨q, rfl, E, ce, L, ⟨rfl, b1, b2⟩, b3, b4, b5, b6, b7, b8⟩
    · exact z.elim
    · exact ⟨.threw q, a1, a2, ⟨w, b1, b2, Or.inr ⟨q, E, ce, rfl, hp, b3, b4, b5⟩⟩, L, b6, b7, b8⟩
theorem K_cases {z : Nat} (h : 2 ≤ z ∧ z ≤ 10) : z = 2 ∨ z = 3 ∨ z = 4 ∨ z = 5 ∨ z = 6 ∨ z = 7 ∨ z = 8 ∨ z = 9 ∨ z = 10 := by omega
theorem g_getD0 {idx d : Nat} {Γ : Ev} {σ : St} (hX : Cx p s m args meth c ym cc nL ret [] D AC lo) (hn : d < Γ.nd) (hK : 2 ≤ Γ.K d ∧ Γ.K d ≤ 10) (hl : Cond.fieldLink ym.cls idx "LandRegister$Deed" "number" "I" ∈ TT) (hd : decode cc pc = .ok (.getfield idx, 3)) (kk : G p l e R s m args below meth c nL D lo post thr (wσ AC Γ σ) k n (pc + 3) lv (.int (σ.I 6 d) :: st)) : G p l e R s m args below meth c nL D lo post thr (wσ AC Γ σ) k n pc lv (.ref (Γ.ad (344 + d)) :: st) := by
  rcases K_cases hK with h | h | h | h | h | h | h | h | h
  · exact g_getf (i := 344 + d) (kf := 0) hX (lt_D hn) rfl (lay_D2 h) rfl in_Fo (by decide) hl (Or.inl rfl) rfl hd kk
  · exact g_getf (i := 344 + d) (kf := 0) hX (lt_D hn) rfl (lay_D3 h) rfl in_Se (by decide) hl (Or.inl rfl) rfl hd kk
  · exact g_getf (i := 344 + d) (kf := 0) hX (lt_D hn) rfl (lay_D4 h) rfl in_Pl (by decide) hl (Or.inl rfl) rfl hd kk
  · exact g_getf (i := 344 + d) (kf := 0) hX (lt_D hn) rfl (lay_D5 h) rfl in_Re (by decide) hl (Or.inl rfl) rfl hd kk
  · exact g_getf (i := 344 + d) (kf := 0) hX (lt_D hn) rfl (lay_D6 h) rfl in_Rl (by decide) hl (Or.inl rfl) rfl hd kk
  · exact g_getf (i := 344 + d) (kf := 0) hX (lt_D hn) rfl (lay_D7 h) rfl in_Ca (by decide) hl (Or.inl rfl) rfl hd kk
  · exact g_getf (i := 344 + d) (kf := 0) hX (lt_D hn) rfl (lay_D8 h) rfl in_Li (by decide) hl (Or.inl rfl) rfl hd kk
  · exact g_getf (i := 344 + d) (kf := 0) hX (lt_D hn) rfl (lay_D9 h) rfl in_Sp (by decide) hl (Or.inl rfl) rfl hd kk
  · exact g_getf (i := 344 + d) (kf := 0) hX (lt_D hn) rfl (lay_D10 h) rfl in_Me (by decide) hl (Or.inl rfl) rfl hd kk
theorem g_putD0 {idx d : Nat} {Γ : Ev} {σ : St} {v : Int32} (hX : Cx p s m args meth c ym cc nL ret [] D AC lo) (hn : d < Γ.nd) (hK : 2 ≤ Γ.K d ∧ Γ.K d ≤ 10) (hl : Cond.fieldLink ym.cls idx "LandRegister$Deed" "number" "I" ∈ TT) (hd : decode cc pc = .ok (.putfield idx, 3)) (kk : G p l e R s m args below meth c nL D lo post thr (wσ AC Γ (σ.sI 6 d v)) k n (pc + 3) lv st) : G p l e R s m args below meth c nL D lo post thr (wσ AC Γ σ) k n pc lv (.int v :: .ref (Γ.ad (344 + d)) :: st) := by
  rcases K_cases hK with h | h | h | h | h | h | h | h | h
  · exact g_putf (i := 344 + d) (kf := 0) (ty := .int) hX (lt_D hn) rfl (lay_D2 h) rfl in_Fo ty_Fo nm_Fo (by decide) hl (Or.inl rfl) rfl (by decide +kernel) rfl rfl (by show _ < List.length _; simp) hd (wσ_dnum2 h v) kk
  · exact g_putf (i := 344 + d) (kf := 0) (ty := .int) hX (lt_D hn) rfl (lay_D3 h) rfl in_Se ty_Se nm_Se (by decide) hl (Or.inl rfl) rfl (by decide +kernel) rfl rfl (by show _ < List.length _; simp) hd (wσ_dnum3 h v) kk
  · exact g_putf (i := 344 + d) (kf := 0) (ty := .int) hX (lt_D hn) rfl (lay_D4 h) rfl in_Pl ty_Pl nm_Pl (by decide) hl (Or.inl rfl) rfl (by decide +kernel) rfl rfl (by show _ < List.length _; simp) hd (wσ_dnum4 h v) kk
  · exact g_putf (i := 344 + d) (kf := 0) (ty := .int) hX (lt_D hn) rfl (lay_D5 h) rfl in_Re ty_Re nm_Re (by decide) hl (Or.inl rfl) rfl (by decide +kernel) rfl rfl (by show _ < List.length _; simp) hd (wσ_dnum5 h v) kk
  · exact g_putf (i := 344 + d) (kf := 0) (ty := .int) hX (lt_D hn) rfl (lay_D6 h) rfl in_Rl ty_Rl nm_Rl (by decide) hl (Or.inl rfl) rfl (by decide +kernel) rfl rfl (by show _ < List.length _; simp) hd (wσ_dnum6 h v) kk
  · exact g_putf (i := 344 + d) (kf := 0) (ty := .int) hX (lt_D hn) rfl (lay_D7 h) rfl in_Ca ty_Ca nm_Ca (by decide) hl (Or.inl rfl) rfl (by decide +kernel) rfl rfl (by show _ < List.length _; simp) hd (wσ_dnum7 h v) kk
  · exact g_putf (i := 344 + d) (kf := 0) (ty := .int) hX (lt_D hn) rfl (lay_D8 h) rfl in_Li ty_Li nm_Li (by decide) hl (Or.inl rfl) rfl (by decide +kernel) rfl rfl (by show _ < List.length _; simp) hd (wσ_dnum8 h v) kk
  · exact g_putf (i := 344 + d) (kf := 0) (ty := .int) hX (lt_D hn) rfl (lay_D9 h) rfl in_Sp ty_Sp nm_Sp (by decide) hl (Or.inl rfl) rfl (by decide +kernel) rfl rfl (by show _ < List.length _; simp) hd (wσ_dnum9 h v) kk
  · exact g_putf (i := 344 + d) (kf := 0) (ty := .int) hX (lt_D hn) rfl (lay_D10 h) rfl in_Me ty_Me nm_Me (by decide) hl (Or.inl rfl) rfl (by decide +kernel) rfl rfl (by show _ < List.length _; simp) hd (wσ_dnum10 h v) kk
theorem g_getD1 {idx d : Nat} {Γ : Ev} {σ : St} (hX : Cx p s m args meth c ym cc nL ret [] D AC lo) (hn : d < Γ.nd) (hK : 2 ≤ Γ.K d ∧ Γ.K d ≤ 10) (hl : Cond.fieldLink ym.cls idx "LandRegister$Deed" "recordDay" "I" ∈ TT) (hd : decode cc pc = .ok (.getfield idx, 3)) (kk : G p l e R s m args below meth c nL D lo post thr (wσ AC Γ σ) k n (pc + 3) lv (.int (σ.I 7 d) :: st)) : G p l e R s m args below meth c nL D lo post thr (wσ AC Γ σ) k n pc lv (.ref (Γ.ad (344 + d)) :: st) := by
  rcases K_cases hK with h | h | h | h | h | h | h | h | h
  · exact g_getf (i := 344 + d) (kf := 1) hX (lt_D hn) rfl (lay_D2 h) rfl in_Fo (by decide) hl (Or.inl rfl) rfl hd kk
  · exact g_getf (i := 344 + d) (kf := 1) hX (lt_D hn) rfl (lay_D3 h) rfl in_Se (by decide) hl (Or.inl rfl) rfl hd kk
  · exact g_getf (i := 344 + d) (kf := 1) hX (lt_D hn) rfl (lay_D4 h) rfl in_Pl (by decide) hl (Or.inl rfl) rfl hd kk
  · exact g_getf (i := 344 + d) (kf := 1) hX (lt_D hn) rfl (lay_D5 h) rfl in_Re (by decide) hl (Or.inl rfl) rfl hd kk
  · exact g_getf (i := 344 + d) (kf := 1) hX (lt_D hn) rfl (lay_D6 h) rfl in_Rl (by decide) hl (Or.inl rfl) rfl hd kk
  · exact g_getf (i := 344 + d) (kf := 1) hX (lt_D hn) rfl (lay_D7 h) rfl in_Ca (by decide) hl (Or.inl rfl) rfl hd kk
  · exact g_getf (i := 344 + d) (kf := 1) hX (lt_D hn) rfl (lay_D8 h) rfl in_Li (by decide) hl (Or.inl rfl) rfl hd kk
  · exact g_getf (i := 344 + d) (kf := 1) hX (lt_D hn) rfl (lay_D9 h) rfl in_Sp (by decide) hl (Or.inl rfl) rfl hd kk
  · exact g_getf (i := 344 + d) (kf := 1) hX (lt_D hn) rfl (lay_D10 h) rfl in_Me (by decide) hl (Or.inl rfl) rfl hd kk
theorem g_putD1 {idx d : Nat} {Γ : Ev} {σ : St} {v : Int32} (hX : Cx p s m args meth c ym cc nL ret [] D AC lo) (hn : d < Γ.nd) (hK : 2 ≤ Γ.K d ∧ Γ.K d ≤ 10) (hl : Cond.fieldLink ym.cls idx "LandRegister$Deed" "recordDay" "I" ∈ TT) (hd : decode cc pc = .ok (.putfield idx, 3)) (kk : G p l e R s m args below meth c nL D lo post thr (wσ AC Γ (σ.sI 7 d v)) k n (pc + 3) lv st) : G p l e R s m args below meth c nL D lo post thr (wσ AC Γ σ) k n pc lv (.int v :: .ref (Γ.ad (344 + d)) :: st) := by
  rcases K_cases hK with h | h | h | h | h | h | h | h | h
  · exact g_putf (i := 344 + d) (kf := 1) (ty := .int) hX (lt_D hn) rfl (lay_D2 h) rfl in_Fo ty_Fo nm_Fo (by decide) hl (Or.inl rfl) rfl (by decide +kernel) rfl rfl (by show _ < List.length _; simp) hd (wσ_drec2 h v) kk
  · exact g_putf (i := 344 + d) (kf := 1) (ty := .int) hX (lt_D hn) rfl (lay_D3 h) rfl in_Se ty_Se nm_Se (by decide) hl (Or.inl rfl) rfl (by decide +kernel) rfl rfl (by show _ < List.length _; simp) hd (wσ_drec3 h v) kk
  · exact g_putf (i := 344 + d) (kf := 1) (ty := .int) hX (lt_D hn) rfl (lay_D4 h) rfl in_Pl ty_Pl nm_Pl (by decide) hl (Or.inl rfl) rfl (by decide +kernel) rfl rfl (by show _ < List.length _; simp) hd (wσ_drec4 h v) kk
  · exact g_putf (i := 344 + d) (kf := 1) (ty := .int) hX (lt_D hn) rfl (lay_D5 h) rfl in_Re ty_Re nm_Re (by decide) hl (Or.inl rfl) rfl (by decide +kernel) rfl rfl (by show _ < List.length _; simp) hd (wσ_drec5 h v) kk
  · exact g_putf (i := 344 + d) (kf := 1) (ty := .int) hX (lt_D hn) rfl (lay_D6 h) rfl in_Rl ty_Rl nm_Rl (by decide) hl (Or.inl rfl) rfl (by decide +kernel) rfl rfl (by show _ < List.length _; simp) hd (wσ_drec6 h v) kk
  · exact g_putf (i := 344 + d) (kf := 1) (ty := .int) hX (lt_D hn) rfl (lay_D7 h) rfl in_Ca ty_Ca nm_Ca (by decide) hl (Or.inl rfl) rfl (by decide +kernel) rfl rfl (by show _ < List.length _; simp) hd (wσ_drec7 h v) kk
  · exact g_putf (i := 344 + d) (kf := 1) (ty := .int) hX (lt_D hn) rfl (lay_D8 h) rfl in_Li ty_Li nm_Li (by decide) hl (Or.inl rfl) rfl (by decide +kernel) rfl rfl (by show _ < List.length _; simp) hd (wσ_drec8 h v) kk
  · exact g_putf (i := 344 + d) (kf := 1) (ty := .int) hX (lt_D hn) rfl (lay_D9 h) rfl in_Sp ty_Sp nm_Sp (by decide) hl (Or.inl rfl) rfl (by decide +kernel) rfl rfl (by show _ < List.length _; simp) hd (wσ_drec9 h v) kk
  · exact g_putf (i := 344 + d) (kf := 1) (ty := .int) hX (lt_D hn) rfl (lay_D10 h) rfl in_Me ty_Me nm_Me (by decide) hl (Or.inl rfl) rfl (by decide +kernel) rfl rfl (by show _ < List.length _; simp) hd (wσ_drec10 h v) kk
theorem g_getD2 {idx d : Nat} {Γ : Ev} {σ : St} (hX : Cx p s m args meth c ym cc nL ret [] D AC lo) (hn : d < Γ.nd) (hK : 2 ≤ Γ.K d ∧ Γ.K d ≤ 10) (hl : Cond.fieldLink ym.cls idx "LandRegister$Deed" "factDay" "I" ∈ TT) (hd : decode cc pc = .ok (.getfield idx, 3)) (kk : G p l e R s m args below meth c nL D lo post thr (wσ AC Γ σ) k n (pc + 3) lv (.int (σ.I 8 d) :: st)) : G p l e R s m args below meth c nL D lo post thr (wσ AC Γ σ) k n pc lv (.ref (Γ.ad (344 + d)) :: st) := by
  rcases K_cases hK with h | h | h | h | h | h | h | h | h
  · exact g_getf (i := 344 + d) (kf := 2) hX (lt_D hn) rfl (lay_D2 h) rfl in_Fo (by decide) hl (Or.inl rfl) rfl hd kk
  · exact g_getf (i := 344 + d) (kf := 2) hX (lt_D hn) rfl (lay_D3 h) rfl in_Se (by decide) hl (Or.inl rfl) rfl hd kk
  · exact g_getf (i := 344 + d) (kf := 2) hX (lt_D hn) rfl (lay_D4 h) rfl in_Pl (by decide) hl (Or.inl rfl) rfl hd kk
  · exact g_getf (i := 344 + d) (kf := 2) hX (lt_D hn) rfl (lay_D5 h) rfl in_Re (by decide) hl (Or.inl rfl) rfl hd kk
  · exact g_getf (i := 344 + d) (kf := 2) hX (lt_D hn) rfl (lay_D6 h) rfl in_Rl (by decide) hl (Or.inl rfl) rfl hd kk
  · exact g_getf (i := 344 + d) (kf := 2) hX (lt_D hn) rfl (lay_D7 h) rfl in_Ca (by decide) hl (Or.inl rfl) rfl hd kk
  · exact g_getf (i := 344 + d) (kf := 2) hX (lt_D hn) rfl (lay_D8 h) rfl in_Li (by decide) hl (Or.inl rfl) rfl hd kk
  · exact g_getf (i := 344 + d) (kf := 2) hX (lt_D hn) rfl (lay_D9 h) rfl in_Sp (by decide) hl (Or.inl rfl) rfl hd kk
  · exact g_getf (i := 344 + d) (kf := 2) hX (lt_D hn) rfl (lay_D10 h) rfl in_Me (by decide) hl (Or.inl rfl) rfl hd kk
theorem g_putD2 {idx d : Nat} {Γ : Ev} {σ : St} {v : Int32} (hX : Cx p s m args meth c ym cc nL ret [] D AC lo) (hn : d < Γ.nd) (hK : 2 ≤ Γ.K d ∧ Γ.K d ≤ 10) (hl : Cond.fieldLink ym.cls idx "LandRegister$Deed" "factDay" "I" ∈ TT) (hd : decode cc pc = .ok (.putfield idx, 3)) (kk : G p l e R s m args below meth c nL D lo post thr (wσ AC Γ (σ.sI 8 d v)) k n (pc + 3) lv st) : G p l e R s m args below meth c nL D lo post thr (wσ AC Γ σ) k n pc lv (.int v :: .ref (Γ.ad (344 + d)) :: st) := by
  rcases K_cases hK with h | h | h | h | h | h | h | h | h
  · exact g_putf (i := 344 + d) (kf := 2) (ty := .int) hX (lt_D hn) rfl (lay_D2 h) rfl in_Fo ty_Fo nm_Fo (by decide) hl (Or.inl rfl) rfl (by decide +kernel) rfl rfl (by show _ < List.length _; simp) hd (wσ_dfact2 h v) kk
  · exact g_putf (i := 344 + d) (kf := 2) (ty := .int) hX (lt_D hn) rfl (lay_D3 h) rfl in_Se ty_Se nm_Se (by decide) hl (Or.inl rfl) rfl (by decide +kernel) rfl rfl (by show _ < List.length _; simp) hd (wσ_dfact3 h v) kk
  · exact g_putf (i := 344 + d) (kf := 2) (ty := .int) hX (lt_D hn) rfl (lay_D4 h) rfl in_Pl ty_Pl nm_Pl (by decide) hl (Or.inl rfl) rfl (by decide +kernel) rfl rfl (by show _ < List.length _; simp) hd (wσ_dfact4 h v) kk
  · exact g_putf (i := 344 + d) (kf := 2) (ty := .int) hX (lt_D hn) rfl (lay_D5 h) rfl in_Re ty_Re nm_Re (by decide) hl (Or.inl rfl) rfl (by decide +kernel) rfl rfl (by show _ < List.length _; simp) hd (wσ_dfact5 h v) kk
  · exact g_putf (i := 344 + d) (kf := 2) (ty := .int) hX (lt_D hn) rfl (lay_D6 h) rfl in_Rl ty_Rl nm_Rl (by decide) hl (Or.inl rfl) rfl (by decide +kernel) rfl rfl (by show _ < List.length _; simp) hd (wσ_dfact6 h v) kk
  · exact g_putf (i := 344 + d) (kf := 2) (ty := .int) hX (lt_D hn) rfl (lay_D7 h) rfl in_Ca ty_Ca nm_Ca (by decide) hl (Or.inl rfl) rfl (by decide +kernel) rfl rfl (by show _ < List.length _; simp) hd (wσ_dfact7 h v) kk
  · exact g_putf (i := 344 + d) (kf := 2) (ty := .int) hX (lt_D hn) rfl (lay_D8 h) rfl in_Li ty_Li nm_Li (by decide) hl (Or.inl rfl) rfl (by decide +kernel) rfl rfl (by show _ < List.length _; simp) hd (wσ_dfact8 h v) kk
  · exact g_putf (i := 344 + d) (kf := 2) (ty := .int) hX (lt_D hn) rfl (lay_D9 h) rfl in_Sp ty_Sp nm_Sp (by decide) hl (Or.inl rfl) rfl (by decide +kernel) rfl rfl (by show _ < List.length _; simp) hd (wσ_dfact9 h v) kk
  · exact g_putf (i := 344 + d) (kf := 2) (ty := .int) hX (lt_D hn) rfl (lay_D10 h) rfl in_Me ty_Me nm_Me (by decide) hl (Or.inl rfl) rfl (by decide +kernel) rfl rfl (by show _ < List.length _; simp) hd (wσ_dfact10 h v) kk
theorem g_getD3 {idx d : Nat} {Γ : Ev} {σ : St} (hX : Cx p s m args meth c ym cc nL ret [] D AC lo) (hn : d < Γ.nd) (hK : 2 ≤ Γ.K d ∧ Γ.K d ≤ 10) (hl : Cond.fieldLink ym.cls idx "LandRegister$Deed" "outcome" "I" ∈ TT) (hd : decode cc pc = .ok (.getfield idx, 3)) (kk : G p l e R s m args below meth c nL D lo post thr (wσ AC Γ σ) k n (pc + 3) lv (.int (σ.I 9 d) :: st)) : G p l e R s m args below meth c nL D lo post thr (wσ AC Γ σ) k n pc lv (.ref (Γ.ad (344 + d)) :: st) := by
  rcases K_cases hK with h | h | h | h | h | h | h | h | h
  · exact g_getf (i := 344 + d) (kf := 3) hX (lt_D hn) rfl (lay_D2 h) rfl in_Fo (by decide) hl (Or.inl rfl) rfl hd kk
  · exact g_getf (i := 344 + d) (kf := 3) hX (lt_D hn) rfl (lay_D3 h) rfl in_Se (by decide) hl (Or.inl rfl) rfl hd kk
  · exact g_getf (i := 344 + d) (kf := 3) hX (lt_D hn) rfl (lay_D4 h) rfl in_Pl (by decide) hl (Or.inl rfl) rfl hd kk
  · exact g_getf (i := 344 + d) (kf := 3) hX (lt_D hn) rfl (lay_D5 h) rfl in_Re (by decide) hl (Or.inl rfl) rfl hd kk
  · exact g_getf (i := 344 + d) (kf := 3) hX (lt_D hn) rfl (lay_D6 h) rfl in_Rl (by decide) hl (Or.inl rfl) rfl hd kk
  · exact g_getf (i := 344 + d) (kf := 3) hX (lt_D hn) rfl (lay_D7 h) rfl in_Ca (by decide) hl (Or.inl rfl) rfl hd kk
  · exact g_getf (i := 344 + d) (kf := 3) hX (lt_D hn) rfl (lay_D8 h) rfl in_Li (by decide) hl (Or.inl rfl) rfl hd kk
  · exact g_getf (i := 344 + d) (kf := 3) hX (lt_D hn) rfl (lay_D9 h) rfl in_Sp (by decide) hl (Or.inl rfl) rfl hd kk
  · exact g_getf (i := 344 + d) (kf := 3) hX (lt_D hn) rfl (lay_D10 h) rfl in_Me (by decide) hl (Or.inl rfl) rfl hd kk
theorem g_putD3 {idx d : Nat} {Γ : Ev} {σ : St} {v : Int32} (hX : Cx p s m args meth c ym cc nL ret [] D AC lo) (hn : d < Γ.nd) (hK : 2 ≤ Γ.K d ∧ Γ.K d ≤ 10) (hl : Cond.fieldLink ym.cls idx "LandRegister$Deed" "outcome" "I" ∈ TT) (hd : decode cc pc = .ok (.putfield idx, 3)) (kk : G p l e R s m args below meth c nL D lo post thr (wσ AC Γ (σ.sI 9 d v)) k n (pc + 3) lv st) : G p l e R s m args below meth c nL D lo post thr (wσ AC Γ σ) k n pc lv (.int v :: .ref (Γ.ad (344 + d)) :: st) := by
  rcases K_cases hK with h | h | h | h | h | h | h | h | h
  · exact g_putf (i := 344 + d) (kf := 3) (ty := .int) hX (lt_D hn) rfl (lay_D2 h) rfl in_Fo ty_Fo nm_Fo (by decide) hl (Or.inl rfl) rfl (by decide +kernel) rfl rfl (by show _ < List.length _; simp) hd (wσ_dout2 h v) kk
  · exact g_putf (i := 344 + d) (kf := 3) (ty := .int) hX (lt_D hn) rfl (lay_D3 h) rfl in_Se ty_Se nm_Se (by decide) hl (Or.inl rfl) rfl (by decide +kernel) rfl rfl (by show _ < List.length _; simp) hd (wσ_dout3 h v) kk
  · exact g_putf (i := 344 + d) (kf := 3) (ty := .int) hX (lt_D hn) rfl (lay_D4 h) rfl in_Pl ty_Pl nm_Pl (by decide) hl (Or.inl rfl) rfl (by decide +kernel) rfl rfl (by show _ < List.length _; simp) hd (wσ_dout4 h v) kk
  · exact g_putf (i := 344 + d) (kf := 3) (ty := .int) hX (lt_D hn) rfl (lay_D5 h) rfl in_Re ty_Re nm_Re (by decide) hl (Or.inl rfl) rfl (by decide +kernel) rfl rfl (by show _ < List.length _; simp) hd (wσ_dout5 h v) kk
  · exact g_putf (i := 344 + d) (kf := 3) (ty := .int) hX (lt_D hn) rfl (lay_D6 h) rfl in_Rl ty_Rl nm_Rl (by decide) hl (Or.inl rfl) rfl (by decide +kernel) rfl rfl (by show _ < List.length _; simp) hd (wσ_dout6 h v) kk
  · exact g_putf (i := 344 + d) (kf := 3) (ty := .int) hX (lt_D hn) rfl (lay_D7 h) rfl in_Ca ty_Ca nm_Ca (by decide) hl (Or.inl rfl) rfl (by decide +kernel) rfl rfl (by show _ < List.length _; simp) hd (wσ_dout7 h v) kk
  · exact g_putf (i := 344 + d) (kf := 3) (ty := .int) hX (lt_D hn) rfl (lay_D8 h) rfl in_Li ty_Li nm_Li (by decide) hl (Or.inl rfl) rfl (by decide +kernel) rfl rfl (by show _ < List.length _; simp) hd (wσ_dout8 h v) kk
  · exact g_putf (i := 344 + d) (kf := 3) (ty := .int) hX (lt_D hn) rfl (lay_D9 h) rfl in_Sp ty_Sp nm_Sp (by decide) hl (Or.inl rfl) rfl (by decide +kernel) rfl rfl (by show _ < List.length _; simp) hd (wσ_dout9 h v) kk
  · exact g_putf (i := 344 + d) (kf := 3) (ty := .int) hX (lt_D hn) rfl (lay_D10 h) rfl in_Me ty_Me nm_Me (by decide) hl (Or.inl rfl) rfl (by decide +kernel) rfl rfl (by show _ < List.length _; simp) hd (wσ_dout10 h v) kk
theorem ca_2 : Cond.castable "LandRegister$Found" "LandRegister$Deed" ∈ NWL := nw_in 972 (by decide +kernel) (by decide +kernel)
theorem ca_3 : Cond.castable "LandRegister$Sell" "LandRegister$Deed" ∈ NWL := nw_in 978 (by decide +kernel) (by decide +kernel)
theorem ca_4 : Cond.castable "LandRegister$Pledge" "LandRegister$Deed" ∈ NWL := nw_in 975 (by decide +kernel) (by decide +kernel)
theorem ca_5 : Cond.castable "LandRegister$Rerank" "LandRegister$Deed" ∈ NWL := nw_in 977 (by decide +kernel) (by decide +kernel)
theorem ca_6 : Cond.castable "LandRegister$Release" "LandRegister$Deed" ∈ NWL := nw_in 976 (by decide +kernel) (by decide +kernel)
theorem ca_7 : Cond.castable "LandRegister$Caution" "LandRegister$Deed" ∈ NWL := nw_in 971 (by decide +kernel) (by decide +kernel)
theorem ca_8 : Cond.castable "LandRegister$Lift" "LandRegister$Deed" ∈ NWL := nw_in 973 (by decide +kernel) (by decide +kernel)
theorem ca_9 : Cond.castable "LandRegister$Split" "LandRegister$Deed" ∈ NWL := nw_in 979 (by decide +kernel) (by decide +kernel)
theorem ca_10 : Cond.castable "LandRegister$Merge" "LandRegister$Deed" ∈ NWL := nw_in 974 (by decide +kernel) (by decide +kernel)
theorem g_aastD {i d a : Nat} {Γ : Ev} {σ : St} {f : Nat → Option Nat} {x : Int32} {w' : Wst} (hX : Cx p s m args meth c ym cc nL ret [] D AC lo) (hi : i < (wσ AC Γ σ).1) (ha : (wσ AC Γ σ).2.1 i = a) (he : (wσ AC Γ σ).2.2 i = .inl (AC 3, 40, .inr (.inr (.inr (.inr f))))) (hn : d < Γ.nd) (hK : 2 ≤ Γ.K d ∧ Γ.K d ≤ 10) (hin : vp_in x 40) (hd : decode cc pc = .ok (.aastore, 1)) (hw : wS (wσ AC Γ σ) i (.inl (AC 3, 40, .inr (.inr (.inr (.inr (va_up f x.toNatClampNeg (some (Γ.ad (344 + d))))))))) = w') (kk : G p l e R s m args below meth c nL D lo post thr w' k n (pc + 1) lv st) : G p l e R s m args below meth c nL D lo post thr (wσ AC Γ σ) k n pc lv (.ref (Γ.ad (344 + d)) :: .int x :: .ref a :: st) := by
  rcases K_cases hK with h | h | h | h | h | h | h | h | h
  · exact g_aast (j := 344 + d) (r := ("LandRegister$Found", T_Fo, 6)) 3 hX hi ha he rfl ca_2 (lt_D hn) rfl (lay_D2 h) rfl hin hd hw kk
  · exact g_aast (j := 344 + d) (r := ("LandRegister$Sell", T_Se, 8)) 3 hX hi ha he rfl ca_3 (lt_D hn) rfl (lay_D3 h) rfl hin hd hw kk
  · exact g_aast (j := 344 + d) (r := ("LandRegister$Pledge", T_Pl, 7)) 3 hX hi ha he rfl ca_4 (lt_D hn) rfl (lay_D4 h) rfl hin hd hw kk
  · exact g_aast (j := 344 + d) (r := ("LandRegister$Rerank", T_Re, 8)) 3 hX hi ha he rfl ca_5 (lt_D hn) rfl (lay_D5 h) rfl hin hd hw kk
  · exact g_aast (j := 344 + d) (r := ("LandRegister$Release", T_Rl, 6)) 3 hX hi ha he rfl ca_6 (lt_D hn) rfl (lay_D6 h) rfl hin hd hw kk
  · exact g_aast (j := 344 + d) (r := ("LandRegister$Caution", T_Ca, 6)) 3 hX hi ha he rfl ca_7 (lt_D hn) rfl (lay_D7 h) rfl hin hd hw kk
  · exact g_aast (j := 344 + d) (r := ("LandRegister$Lift", T_Li, 6)) 3 hX hi ha he rfl ca_8 (lt_D hn) rfl (lay_D8 h) rfl hin hd hw kk
  · exact g_aast (j := 344 + d) (r := ("LandRegister$Split", T_Sp, 6)) 3 hX hi ha he rfl ca_9 (lt_D hn) rfl (lay_D9 h) rfl hin hd hw kk
  · exact g_aast (j := 344 + d) (r := ("LandRegister$Merge", T_Me, 6)) 3 hX hi ha he rfl ca_10 (lt_D hn) rfl (lay_D10 h) rfl hin hd hw kk
end SPECIAL
abbrev upX : List String := ["java/lang/RuntimeException", "java/lang/Exception"]
theorem fit_up : ∀ n ∈ upX, Bundle.fit n = true := by decide +kernel
theorem fit_IllegalArgumentException : Bundle.fit "java/lang/IllegalArgumentException" = true := by decide +kernel
set_option maxRecDepth 100000 in
set_option maxHeartbeats 4000000 in
theorem all_IllegalArgumentException : (vx_atS "LandRegister" 108 "java/lang/IllegalArgumentException" upX).all (fun z => decide (z ∈ tables_1) && ((goodWord z || nwOk z) && vx_ot z)) = true := by decide +kernel
theorem fit_IllegalStateException : Bundle.fit "java/lang/IllegalStateException" = true := by decide +kernel
set_option maxRecDepth 100000 in
set_option maxHeartbeats 4000000 in
theorem all_IllegalStateException : (vx_atS "LandRegister" 98 "java/lang/IllegalStateException" upX).all (fun z => decide (z ∈ tables_1) && ((goodWord z || nwOk z) && vx_ot z)) = true := by decide +kernel
theorem fit_IndexOutOfBoundsException : Bundle.fit "java/lang/IndexOutOfBoundsException" = true := by decide +kernel
set_option maxRecDepth 100000 in
set_option maxHeartbeats 4000000 in
theorem all_IndexOutOfBoundsException : (vx_atS "LandRegister" 151 "java/lang/IndexOutOfBoundsException" upX).all (fun z => decide (z ∈ tables_1) && ((goodWord z || nwOk z) && vx_ot z)) = true := by decide +kernel
