def wp_De_init (Γ : Ev) (n0 : Nat) (σ : St) (post : St → Prop) (thr : String → St → Prop) : Prop := (n0 < Γ.nd ∧ ((2 ≤ Γ.K n0 ∧ Γ.K n0 ≤ 10) ∧ post (St.sI (σ) 9 n0 (-1 : Int32))))
abbrev rm_De_init : Room := { frames := 1, cells := 0, slots := 0, locals := 20 }
set_option maxRecDepth 100000 in
set_option maxHeartbeats 4000000 in
theorem c_De_init {l : Launch} {D : va_G} {AC : Nat → ClassId} {lo : Nat} {Γ : Ev} {n0 : Nat} {σ : St} {post : St → Prop} {thr : String → St → Prop} (h : wp_De_init Γ n0 σ post thr) : Ct l y_De_init hd_De_init rm_De_init D AC lo [.ref (Γ.ad (344 + n0))] (wσ AC Γ σ) (pV AC Γ post) (tX AC Γ thr) := by
  refine Ct.of (by decide) (Nat.le_of_ble_eq_true rfl) ?_
  intro p e s m args below meth c hadm hX
  unfold wp_De_init at h
  obtain ⟨q1, q2, h⟩ := h
  show G p l e rm_De_init s m args below meth c 1 D lo (pV AC Γ post) (tX AC Γ thr) (wσ AC Γ (σ)) 0 0 0 [(0, .ref (Γ.ad (344 + n0)))] []
  refine g_aload_n hX d_De_init_0 rfl 0 rfl ?_
  refine g_objInit hX t_236 t_29 t_30 (Nat.le_of_ble_eq_true rfl) (Nat.le_of_ble_eq_true rfl) d_De_init_1 ?_
  refine g_aload_n hX d_De_init_4 rfl 0 rfl ?_
  refine g_iconst (v := -1) hX d_De_init_5 (by decide) ?_
  refine g_putD3 hX q1 q2 t_248 d_De_init_6 ?_
  exact g_vret hX rfl d_De_init_9 ⟨_, rfl, rfl, h⟩

def wp_Fo_init (Γ : Ev) (n0 : Nat) (x1 : Int32) (x2 : Int32) (σ : St) (post : St → Prop) (thr : String → St → Prop) : Prop := (n0 < Γ.nd ∧ (Γ.K n0 = 2 ∧ wp_De_init Γ n0 (σ) (fun σ3 => post (St.sI (St.sI (σ3) 10 n0 x1) 11 n0 x2)) thr))
abbrev rm_Fo_init : Room := { frames := 2, cells := 0, slots := 0, locals := 40 }
set_option maxRecDepth 100000 in
set_option maxHeartbeats 4000000 in
theorem c_Fo_init {l : Launch} {D : va_G} {AC : Nat → ClassId} {lo : Nat} {Γ : Ev} {n0 : Nat} {x1 : Int32} {x2 : Int32} {σ : St} {post : St → Prop} {thr : String → St → Prop} (h : wp_Fo_init Γ n0 x1 x2 σ post thr) : Ct l y_Fo_init hd_Fo_init rm_Fo_init D AC lo [.ref (Γ.ad (344 + n0)), .int (x1), .int (x2)] (wσ AC Γ σ) (pV AC Γ post) (tX AC Γ thr) := by
  refine Ct.of (by decide) (Nat.le_of_ble_eq_true rfl) ?_
  intro p e s m args below meth c hadm hX
  unfold wp_Fo_init at h
  obtain ⟨q1, q2, h⟩ := h
  show G p l e rm_Fo_init s m args below meth c 3 D lo (pV AC Γ post) (tX AC Γ thr) (wσ AC Γ (σ)) 0 0 0 [(0, .ref (Γ.ad (344 + n0))), (1, .int (x1)), (2, .int (x2))] []
  refine g_aload_n hX d_Fo_init_0 rfl 0 rfl ?_
  refine g_callIN (k := 0) (n := 0) hX (c_De_init h) hdT_De_init t_9 n_233 t_234 rfl ⟨⟨by decide, by decide⟩, np_De_init⟩ ⟨Nat.le_of_ble_eq_true rfl, Nat.le_of_ble_eq_true rfl⟩ (Nat.le_of_ble_eq_true rfl) d_Fo_init_1 rfl ?_ (fun _ _ z => z)
  rintro _ _ ⟨σ3, rfl, rfl, h⟩
  refine g_aload_n hX d_Fo_init_4 rfl 0 rfl ?_
  refine g_iload_n hX d_Fo_init_5 rfl 1 rfl ?_
  refine g_putF (i := (344 + n0)) (kf := 4) (ty := .int) hX (lt_D q1) rfl (lay_D2 q2) rfl in_Fo ty_Fo nm_Fo (by decide) t_237 (Or.inl rfl) rfl rfl rfl (by decide +kernel) rfl rfl (by show _ < List.length _; simp) d_Fo_init_6 (wσ_dx2_0 q2 _) ?_
  refine g_aload_n hX d_Fo_init_9 rfl 0 rfl ?_
  refine g_iload_n hX d_Fo_init_10 rfl 2 rfl ?_
  refine g_putF (i := (344 + n0)) (kf := 5) (ty := .int) hX (lt_D q1) rfl (lay_D2 q2) rfl in_Fo ty_Fo nm_Fo (by decide) t_238 (Or.inl rfl) rfl rfl rfl (by decide +kernel) rfl rfl (by show _ < List.length _; simp) d_Fo_init_11 (wσ_dx2_1 q2 _) ?_
  exact g_vret hX rfl d_Fo_init_14 ⟨_, rfl, rfl, h⟩

def wp_Se_init (Γ : Ev) (n0 : Nat) (x1 : Int32) (x2 : Int32) (x3 : Int32) (x4 : Int64) (σ : St) (post : St → Prop) (thr : String → St → Prop) : Prop := (n0 < Γ.nd ∧ (Γ.K n0 = 3 ∧ wp_De_init Γ n0 (σ) (fun σ3 => post (St.sL (St.sI (St.sI (St.sI (σ3) 10 n0 x1) 11 n0 x2) 12 n0 x3) 2 n0 x4)) thr))
abbrev rm_Se_init : Room := { frames := 2, cells := 0, slots := 0, locals := 40 }
set_option maxRecDepth 100000 in
set_option maxHeartbeats 4000000 in
theorem c_Se_init {l : Launch} {D : va_G} {AC : Nat → ClassId} {lo : Nat} {Γ : Ev} {n0 : Nat} {x1 : Int32} {x2 : Int32} {x3 : Int32} {x4 : Int64} {σ : St} {post : St → Prop} {thr : String → St → Prop} (h : wp_Se_init Γ n0 x1 x2 x3 x4 σ post thr) : Ct l y_Se_init hd_Se_init rm_Se_init D AC lo [.ref (Γ.ad (344 + n0)), .int (x1), .int (x2), .int (x3), .long (x4)] (wσ AC Γ σ) (pV AC Γ post) (tX AC Γ thr) := by
  refine Ct.of (by decide) (Nat.le_of_ble_eq_true rfl) ?_
  intro p e s m args below meth c hadm hX
  unfold wp_Se_init at h
  obtain ⟨q1, q2, h⟩ := h
  show G p l e rm_Se_init s m args below meth c 6 D lo (pV AC Γ post) (tX AC Γ thr) (wσ AC Γ (σ)) 0 0 0 [(0, .ref (Γ.ad (344 + n0))), (1, .int (x1)), (2, .int (x2)), (3, .int (x3)), (4, .long (x4))] []
  refine g_aload_n hX d_Se_init_0 rfl 0 rfl ?_
  refine g_callIN (k := 0) (n := 0) hX (c_De_init h) hdT_De_init t_9 n_449 t_234 rfl ⟨⟨by decide, by decide⟩, np_De_init⟩ ⟨Nat.le_of_ble_eq_true rfl, Nat.le_of_ble_eq_true rfl⟩ (Nat.le_of_ble_eq_true rfl) d_Se_init_1 rfl ?_ (fun _ _ z => z)
  rintro _ _ ⟨σ3, rfl, rfl, h⟩
  refine g_aload_n hX d_Se_init_4 rfl 0 rfl ?_
  refine g_iload_n hX d_Se_init_5 rfl 1 rfl ?_
  refine g_putF (i := (344 + n0)) (kf := 4) (ty := .int) hX (lt_D q1) rfl (lay_D3 q2) rfl in_Se ty_Se nm_Se (by decide) t_450 (Or.inl rfl) rfl rfl rfl (by decide +kernel) rfl rfl (by show _ < List.length _; simp) d_Se_init_6 (wσ_dx3_0 q2 _) ?_
  refine g_aload_n hX d_Se_init_9 rfl 0 rfl ?_
  refine g_iload_n hX d_Se_init_10 rfl 2 rfl ?_
  refine g_putF (i := (344 + n0)) (kf := 5) (ty := .int) hX (lt_D q1) rfl (lay_D3 q2) rfl in_Se ty_Se nm_Se (by decide) t_451 (Or.inl rfl) rfl rfl rfl (by decide +kernel) rfl rfl (by show _ < List.length _; simp) d_Se_init_11 (wσ_dx3_1 q2 _) ?_
  refine g_aload_n hX d_Se_init_14 rfl 0 rfl ?_
  refine g_iload_n hX d_Se_init_15 rfl 3 rfl ?_
  refine g_putF (i := (344 + n0)) (kf := 6) (ty := .int) hX (lt_D q1) rfl (lay_D3 q2) rfl in_Se ty_Se nm_Se (by decide) t_452 (Or.inl rfl) rfl rfl rfl (by decide +kernel) rfl rfl (by show _ < List.length _; simp) d_Se_init_16 (wσ_dx3_2 q2 _) ?_
  refine g_aload_n hX d_Se_init_19 rfl 0 rfl ?_
  refine g_lload hX d_Se_init_20 4 rfl ?_
  refine g_putF (i := (344 + n0)) (kf := 7) (ty := .long) hX (lt_D q1) rfl (lay_D3 q2) rfl in_Se ty_Se nm_Se (by decide) t_453 (Or.inl rfl) rfl rfl rfl (by decide +kernel) rfl rfl (by show _ < List.length _; simp) d_Se_init_22 (wσ_dx3_3 q2 _) ?_
  exact g_vret hX rfl d_Se_init_25 ⟨_, rfl, rfl, h⟩

def wp_Pl_init (Γ : Ev) (n0 : Nat) (x1 : Int32) (x2 : Int32) (x3 : Int32) (σ : St) (post : St → Prop) (thr : String → St → Prop) : Prop := (n0 < Γ.nd ∧ (Γ.K n0 = 4 ∧ wp_De_init Γ n0 (σ) (fun σ3 => post (St.sI (St.sI (St.sI (σ3) 10 n0 x1) 11 n0 x2) 12 n0 x3)) thr))
abbrev rm_Pl_init : Room := { frames := 2, cells := 0, slots := 0, locals := 40 }
set_option maxRecDepth 100000 in
set_option maxHeartbeats 4000000 in
theorem c_Pl_init {l : Launch} {D : va_G} {AC : Nat → ClassId} {lo : Nat} {Γ : Ev} {n0 : Nat} {x1 : Int32} {x2 : Int32} {x3 : Int32} {σ : St} {post : St → Prop} {thr : String → St → Prop} (h : wp_Pl_init Γ n0 x1 x2 x3 σ post thr) : Ct l y_Pl_init hd_Pl_init rm_Pl_init D AC lo [.ref (Γ.ad (344 + n0)), .int (x1), .int (x2), .int (x3)] (wσ AC Γ σ) (pV AC Γ post) (tX AC Γ thr) := by
  refine Ct.of (by decide) (Nat.le_of_ble_eq_true rfl) ?_
  intro p e s m args below meth c hadm hX
  unfold wp_Pl_init at h
  obtain ⟨q1, q2, h⟩ := h
  show G p l e rm_Pl_init s m args below meth c 4 D lo (pV AC Γ post) (tX AC Γ thr) (wσ AC Γ (σ)) 0 0 0 [(0, .ref (Γ.ad (344 + n0))), (1, .int (x1)), (2, .int (x2)), (3, .int (x3))] []
  refine g_aload_n hX d_Pl_init_0 rfl 0 rfl ?_
  refine g_callIN (k := 0) (n := 0) hX (c_De_init h) hdT_De_init t_9 n_479 t_234 rfl ⟨⟨by decide, by decide⟩, np_De_init⟩ ⟨Nat.le_of_ble_eq_true rfl, Nat.le_of_ble_eq_true rfl⟩ (Nat.le_of_ble_eq_true rfl) d_Pl_init_1 rfl ?_ (fun _ _ z => z)
  rintro _ _ ⟨σ3, rfl, rfl, h⟩
  refine g_aload_n hX d_Pl_init_4 rfl 0 rfl ?_
  refine g_iload_n hX d_Pl_init_5 rfl 1 rfl ?_
  refine g_putF (i := (344 + n0)) (kf := 4) (ty := .int) hX (lt_D q1) rfl (lay_D4 q2) rfl in_Pl ty_Pl nm_Pl (by decide) t_480 (Or.inl rfl) rfl rfl rfl (by decide +kernel) rfl rfl (by show _ < List.length _; simp) d_Pl_init_6 (wσ_dx4_0 q2 _) ?_
  refine g_aload_n hX d_Pl_init_9 rfl 0 rfl ?_
  refine g_iload_n hX d_Pl_init_10 rfl 2 rfl ?_
  refine g_putF (i := (344 + n0)) (kf := 5) (ty := .int) hX (lt_D q1) rfl (lay_D4 q2) rfl in_Pl ty_Pl nm_Pl (by decide) t_481 (Or.inl rfl) rfl rfl rfl (by decide +kernel) rfl rfl (by show _ < List.length _; simp) d_Pl_init_11 (wσ_dx4_1 q2 _) ?_
  refine g_aload_n hX d_Pl_init_14 rfl 0 rfl ?_
  refine g_iload_n hX d_Pl_init_15 rfl 3 rfl ?_
  refine g_putF (i := (344 + n0)) (kf := 6) (ty := .int) hX (lt_D q1) rfl (lay_D4 q2) rfl in_Pl ty_Pl nm_Pl (by decide) t_482 (Or.inl rfl) rfl rfl rfl (by decide +kernel) rfl rfl (by show _ < List.length _; simp) d_Pl_init_16 (wσ_dx4_2 q2 _) ?_
  exact g_vret hX rfl d_Pl_init_19 ⟨_, rfl, rfl, h⟩

def wp_Re_init (Γ : Ev) (n0 : Nat) (x1 : Int32) (x2 : Int32) (x3 : Int32) (x4 : Int32) (σ : St) (post : St → Prop) (thr : String → St → Prop) : Prop := (n0 < Γ.nd ∧ (Γ.K n0 = 5 ∧ wp_De_init Γ n0 (σ) (fun σ3 => post (St.sI (St.sI (St.sI (St.sI (σ3) 10 n0 x1) 11 n0 x2) 12 n0 x3) 13 n0 x4)) thr))
abbrev rm_Re_init : Room := { frames := 2, cells := 0, slots := 0, locals := 40 }
set_option maxRecDepth 100000 in
set_option maxHeartbeats 4000000 in
theorem c_Re_init {l : Launch} {D : va_G} {AC : Nat → ClassId} {lo : Nat} {Γ : Ev} {n0 : Nat} {x1 : Int32} {x2 : Int32} {x3 : Int32} {x4 : Int32} {σ : St} {post : St → Prop} {thr : String → St → Prop} (h : wp_Re_init Γ n0 x1 x2 x3 x4 σ post thr) : Ct l y_Re_init hd_Re_init rm_Re_init D AC lo [.ref (Γ.ad (344 + n0)), .int (x1), .int (x2), .int (x3), .int (x4)] (wσ AC Γ σ) (pV AC Γ post) (tX AC Γ thr) := by
  refine Ct.of (by decide) (Nat.le_of_ble_eq_true rfl) ?_
  intro p e s m args below meth c hadm hX
  unfold wp_Re_init at h
  obtain ⟨q1, q2, h⟩ := h
  show G p l e rm_Re_init s m args below meth c 5 D lo (pV AC Γ post) (tX AC Γ thr) (wσ AC Γ (σ)) 0 0 0 [(0, .ref (Γ.ad (344 + n0))), (1, .int (x1)), (2, .int (x2)), (3, .int (x3)), (4, .int (x4))] []
  refine g_aload_n hX d_Re_init_0 rfl 0 rfl ?_
  refine g_callIN (k := 0) (n := 0) hX (c_De_init h) hdT_De_init t_9 n_509 t_234 rfl ⟨⟨by decide, by decide⟩, np_De_init⟩ ⟨Nat.le_of_ble_eq_true rfl, Nat.le_of_ble_eq_true rfl⟩ (Nat.le_of_ble_eq_true rfl) d_Re_init_1 rfl ?_ (fun _ _ z => z)
  rintro _ _ ⟨σ3, rfl, rfl, h⟩
  refine g_aload_n hX d_Re_init_4 rfl 0 rfl ?_
  refine g_iload_n hX d_Re_init_5 rfl 1 rfl ?_
  refine g_putF (i := (344 + n0)) (kf := 4) (ty := .int) hX (lt_D q1) rfl (lay_D5 q2) rfl in_Re ty_Re nm_Re (by decide) t_510 (Or.inl rfl) rfl rfl rfl (by decide +kernel) rfl rfl (by show _ < List.length _; simp) d_Re_init_6 (wσ_dx5_0 q2 _) ?_
  refine g_aload_n hX d_Re_init_9 rfl 0 rfl ?_
  refine g_iload_n hX d_Re_init_10 rfl 2 rfl ?_
  refine g_putF (i := (344 + n0)) (kf := 5) (ty := .int) hX (lt_D q1) rfl (lay_D5 q2) rfl in_Re ty_Re nm_Re (by decide) t_511 (Or.inl rfl) rfl rfl rfl (by decide +kernel) rfl rfl (by show _ < List.length _; simp) d_Re_init_11 (wσ_dx5_1 q2 _) ?_
  refine g_aload_n hX d_Re_init_14 rfl 0 rfl ?_
  refine g_iload_n hX d_Re_init_15 rfl 3 rfl ?_
  refine g_putF (i := (344 + n0)) (kf := 6) (ty := .int) hX (lt_D q1) rfl (lay_D5 q2) rfl in_Re ty_Re nm_Re (by decide) t_512 (Or.inl rfl) rfl rfl rfl (by decide +kernel) rfl rfl (by show _ < List.length _; simp) d_Re_init_16 (wσ_dx5_2 q2 _) ?_
  refine g_aload_n hX d_Re_init_19 rfl 0 rfl ?_
  refine g_iload hX d_Re_init_20 4 rfl ?_
  refine g_putF (i := (344 + n0)) (kf := 7) (ty := .int) hX (lt_D q1) rfl (lay_D5 q2) rfl in_Re ty_Re nm_Re (by decide) t_513 (Or.inl rfl) rfl rfl rfl (by decide +kernel) rfl rfl (by show _ < List.length _; simp) d_Re_init_22 (wσ_dx5_3 q2 _) ?_
  exact g_vret hX rfl d_Re_init_25 ⟨_, rfl, rfl, h⟩

def wp_Rl_init (Γ : Ev) (n0 : Nat) (x1 : Int32) (x2 : Int32) (σ : St) (post : St → Prop) (thr : String → St → Prop) : Prop := (n0 < Γ.nd ∧ (Γ.K n0 = 6 ∧ wp_De_init Γ n0 (σ) (fun σ3 => post (St.sI (St.sI (σ3) 10 n0 x1) 11 n0 x2)) thr))
abbrev rm_Rl_init : Room := { frames := 2, cells := 0, slots := 0, locals := 40 }
set_option maxRecDepth 100000 in
set_option maxHeartbeats 4000000 in
theorem c_Rl_init {l : Launch} {D : va_G} {AC : Nat → ClassId} {lo : Nat} {Γ : Ev} {n0 : Nat} {x1 : Int32} {x2 : Int32} {σ : St} {post : St → Prop} {thr : String → St → Prop} (h : wp_Rl_init Γ n0 x1 x2 σ post thr) : Ct l y_Rl_init hd_Rl_init rm_Rl_init D AC lo [.ref (Γ.ad (344 + n0)), .int (x1), .int (x2)] (wσ AC Γ σ) (pV AC Γ post) (tX AC Γ thr) := by
  refine Ct.of (by decide) (Nat.le_of_ble_eq_true rfl) ?_
  intro p e s m args below meth c hadm hX
  unfold wp_Rl_init at h
  obtain ⟨q1, q2, h⟩ := h
  show G p l e rm_Rl_init s m args below meth c 3 D lo (pV AC Γ post) (tX AC Γ thr) (wσ AC Γ (σ)) 0 0 0 [(0, .ref (Γ.ad (344 + n0))), (1, .int (x1)), (2, .int (x2))] []
  refine g_aload_n hX d_Rl_init_0 rfl 0 rfl ?_
  refine g_callIN (k := 0) (n := 0) hX (c_De_init h) hdT_De_init t_9 n_539 t_234 rfl ⟨⟨by decide, by decide⟩, np_De_init⟩ ⟨Nat.le_of_ble_eq_true rfl, Nat.le_of_ble_eq_true rfl⟩ (Nat.le_of_ble_eq_true rfl) d_Rl_init_1 rfl ?_ (fun _ _ z => z)
  rintro _ _ ⟨σ3, rfl, rfl, h⟩
  refine g_aload_n hX d_Rl_init_4 rfl 0 rfl ?_
  refine g_iload_n hX d_Rl_init_5 rfl 1 rfl ?_
  refine g_putF (i := (344 + n0)) (kf := 4) (ty := .int) hX (lt_D q1) rfl (lay_D6 q2) rfl in_Rl ty_Rl nm_Rl (by decide) t_540 (Or.inl rfl) rfl rfl rfl (by decide +kernel) rfl rfl (by show _ < List.length _; simp) d_Rl_init_6 (wσ_dx6_0 q2 _) ?_
  refine g_aload_n hX d_Rl_init_9 rfl 0 rfl ?_
  refine g_iload_n hX d_Rl_init_10 rfl 2 rfl ?_
  refine g_putF (i := (344 + n0)) (kf := 5) (ty := .int) hX (lt_D q1) rfl (lay_D6 q2) rfl in_Rl ty_Rl nm_Rl (by decide) t_541 (Or.inl rfl) rfl rfl rfl (by decide +kernel) rfl rfl (by show _ < List.length _; simp) d_Rl_init_11 (wσ_dx6_1 q2 _) ?_
  exact g_vret hX rfl d_Rl_init_14 ⟨_, rfl, rfl, h⟩

def wp_Ca_init (Γ : Ev) (n0 : Nat) (x1 : Int32) (x2 : Int32) (σ : St) (post : St → Prop) (thr : String → St → Prop) : Prop := (n0 < Γ.nd ∧ (Γ.K n0 = 7 ∧ wp_De_init Γ n0 (σ) (fun σ3 => post (St.sI (St.sI (σ3) 10 n0 x1) 11 n0 x2)) thr))
abbrev rm_Ca_init : Room := { frames := 2, cells := 0, slots := 0, locals := 40 }
set_option maxRecDepth 100000 in
set_option maxHeartbeats 4000000 in
theorem c_Ca_init {l : Launch} {D : va_G} {AC : Nat → ClassId} {lo : Nat} {Γ : Ev} {n0 : Nat} {x1 : Int32} {x2 : Int32} {σ : St} {post : St → Prop} {thr : String → St → Prop} (h : wp_Ca_init Γ n0 x1 x2 σ post thr) : Ct l y_Ca_init hd_Ca_init rm_Ca_init D AC lo [.ref (Γ.ad (344 + n0)), .int (x1), .int (x2)] (wσ AC Γ σ) (pV AC Γ post) (tX AC Γ thr) := by
  refine Ct.of (by decide) (Nat.le_of_ble_eq_true rfl) ?_
  intro p e s m args below meth c hadm hX
  unfold wp_Ca_init at h
  obtain ⟨q1, q2, h⟩ := h
  show G p l e rm_Ca_init s m args below meth c 3 D lo (pV AC Γ post) (tX AC Γ thr) (wσ AC Γ (σ)) 0 0 0 [(0, .ref (Γ.ad (344 + n0))), (1, .int (x1)), (2, .int (x2))] []
  refine g_aload_n hX d_Ca_init_0 rfl 0 rfl ?_
  refine g_callIN (k := 0) (n := 0) hX (c_De_init h) hdT_De_init t_9 n_563 t_234 rfl ⟨⟨by decide, by decide⟩, np_De_init⟩ ⟨Nat.le_of_ble_eq_true rfl, Nat.le_of_ble_eq_true rfl⟩ (Nat.le_of_ble_eq_true rfl) d_Ca_init_1 rfl ?_ (fun _ _ z => z)
  rintro _ _ ⟨σ3, rfl, rfl, h⟩
  refine g_aload_n hX d_Ca_init_4 rfl 0 rfl ?_
  refine g_iload_n hX d_Ca_init_5 rfl 1 rfl ?_
  refine g_putF (i := (344 + n0)) (kf := 4) (ty := .int) hX (lt_D q1) rfl (lay_D7 q2) rfl in_Ca ty_Ca nm_Ca (by decide) t_564 (Or.inl rfl) rfl rfl rfl (by decide +kernel) rfl rfl (by show _ < List.length _; simp) d_Ca_init_6 (wσ_dx7_0 q2 _) ?_
  refine g_aload_n hX d_Ca_init_9 rfl 0 rfl ?_
  refine g_iload_n hX d_Ca_init_10 rfl 2 rfl ?_
  refine g_putF (i := (344 + n0)) (kf := 5) (ty := .int) hX (lt_D q1) rfl (lay_D7 q2) rfl in_Ca ty_Ca nm_Ca (by decide) t_565 (Or.inl rfl) rfl rfl rfl (by decide +kernel) rfl rfl (by show _ < List.length _; simp) d_Ca_init_11 (wσ_dx7_1 q2 _) ?_
  exact g_vret hX rfl d_Ca_init_14 ⟨_, rfl, rfl, h⟩

def wp_Li_init (Γ : Ev) (n0 : Nat) (x1 : Int32) (x2 : Int32) (σ : St) (post : St → Prop) (thr : String → St → Prop) : Prop := (n0 < Γ.nd ∧ (Γ.K n0 = 8 ∧ wp_De_init Γ n0 (σ) (fun σ3 => post (St.sI (St.sI (σ3) 10 n0 x1) 11 n0 x2)) thr))
abbrev rm_Li_init : Room := { frames := 2, cells := 0, slots := 0, locals := 40 }
set_option maxRecDepth 100000 in
set_option maxHeartbeats 4000000 in
theorem c_Li_init {l : Launch} {D : va_G} {AC : Nat → ClassId} {lo : Nat} {Γ : Ev} {n0 : Nat} {x1 : Int32} {x2 : Int32} {σ : St} {post : St → Prop} {thr : String → St → Prop} (h : wp_Li_init Γ n0 x1 x2 σ post thr) : Ct l y_Li_init hd_Li_init rm_Li_init D AC lo [.ref (Γ.ad (344 + n0)), .int (x1), .int (x2)] (wσ AC Γ σ) (pV AC Γ post) (tX AC Γ thr) := by
  refine Ct.of (by decide) (Nat.le_of_ble_eq_true rfl) ?_
  intro p e s m args below meth c hadm hX
  unfold wp_Li_init at h
  obtain ⟨q1, q2, h⟩ := h
  show G p l e rm_Li_init s m args below meth c 3 D lo (pV AC Γ post) (tX AC Γ thr) (wσ AC Γ (σ)) 0 0 0 [(0, .ref (Γ.ad (344 + n0))), (1, .int (x1)), (2, .int (x2))] []
  refine g_aload_n hX d_Li_init_0 rfl 0 rfl ?_
  refine g_callIN (k := 0) (n := 0) hX (c_De_init h) hdT_De_init t_9 n_587 t_234 rfl ⟨⟨by decide, by decide⟩, np_De_init⟩ ⟨Nat.le_of_ble_eq_true rfl, Nat.le_of_ble_eq_true rfl⟩ (Nat.le_of_ble_eq_true rfl) d_Li_init_1 rfl ?_ (fun _ _ z => z)
  rintro _ _ ⟨σ3, rfl, rfl, h⟩
  refine g_aload_n hX d_Li_init_4 rfl 0 rfl ?_
  refine g_iload_n hX d_Li_init_5 rfl 1 rfl ?_
  refine g_putF (i := (344 + n0)) (kf := 4) (ty := .int) hX (lt_D q1) rfl (lay_D8 q2) rfl in_Li ty_Li nm_Li (by decide) t_588 (Or.inl rfl) rfl rfl rfl (by decide +kernel) rfl rfl (by show _ < List.length _; simp) d_Li_init_6 (wσ_dx8_0 q2 _) ?_
  refine g_aload_n hX d_Li_init_9 rfl 0 rfl ?_
  refine g_iload_n hX d_Li_init_10 rfl 2 rfl ?_
  refine g_putF (i := (344 + n0)) (kf := 5) (ty := .int) hX (lt_D q1) rfl (lay_D8 q2) rfl in_Li ty_Li nm_Li (by decide) t_589 (Or.inl rfl) rfl rfl rfl (by decide +kernel) rfl rfl (by show _ < List.length _; simp) d_Li_init_11 (wσ_dx8_1 q2 _) ?_
  exact g_vret hX rfl d_Li_init_14 ⟨_, rfl, rfl, h⟩

def wp_Sp_init (Γ : Ev) (n0 : Nat) (x1 : Int32) (x2 : Int32) (σ : St) (post : St → Prop) (thr : String → St → Prop) : Prop := (n0 < Γ.nd ∧ (Γ.K n0 = 9 ∧ wp_De_init Γ n0 (σ) (fun σ3 => post (St.sI (St.sI (σ3) 10 n0 x1) 11 n0 x2)) thr))
abbrev rm_Sp_init : Room := { frames := 2, cells := 0, slots := 0, locals := 40 }
set_option maxRecDepth 100000 in
set_option maxHeartbeats 4000000 in
theorem c_Sp_init {l : Launch} {D : va_G} {AC : Nat → ClassId} {lo : Nat} {Γ : Ev} {n0 : Nat} {x1 : Int32} {x2 : Int32} {σ : St} {post : St → Prop} {thr : String → St → Prop} (h : wp_Sp_init Γ n0 x1 x2 σ post thr) : Ct l y_Sp_init hd_Sp_init rm_Sp_init D AC lo [.ref (Γ.ad (344 + n0)), .int (x1), .int (x2)] (wσ AC Γ σ) (pV AC Γ post) (tX AC Γ thr) := by
  refine Ct.of (by decide) (Nat.le_of_ble_eq_true rfl) ?_
  intro p e s m args below meth c hadm hX
  unfold wp_Sp_init at h
  obtain ⟨q1, q2, h⟩ := h
  show G p l e rm_Sp_init s m args below meth c 3 D lo (pV AC Γ post) (tX AC Γ thr) (wσ AC Γ (σ)) 0 0 0 [(0, .ref (Γ.ad (344 + n0))), (1, .int (x1)), (2, .int (x2))] []
  refine g_aload_n hX d_Sp_init_0 rfl 0 rfl ?_
  refine g_callIN (k := 0) (n := 0) hX (c_De_init h) hdT_De_init t_9 n_611 t_234 rfl ⟨⟨by decide, by decide⟩, np_De_init⟩ ⟨Nat.le_of_ble_eq_true rfl, Nat.le_of_ble_eq_true rfl⟩ (Nat.le_of_ble_eq_true rfl) d_Sp_init_1 rfl ?_ (fun _ _ z => z)
  rintro _ _ ⟨σ3, rfl, rfl, h⟩
  refine g_aload_n hX d_Sp_init_4 rfl 0 rfl ?_
  refine g_iload_n hX d_Sp_init_5 rfl 1 rfl ?_
  refine g_putF (i := (344 + n0)) (kf := 4) (ty := .int) hX (lt_D q1) rfl (lay_D9 q2) rfl in_Sp ty_Sp nm_Sp (by decide) t_612 (Or.inl rfl) rfl rfl rfl (by decide +kernel) rfl rfl (by show _ < List.length _; simp) d_Sp_init_6 (wσ_dx9_0 q2 _) ?_
  refine g_aload_n hX d_Sp_init_9 rfl 0 rfl ?_
  refine g_iload_n hX d_Sp_init_10 rfl 2 rfl ?_
  refine g_putF (i := (344 + n0)) (kf := 5) (ty := .int) hX (lt_D q1) rfl (lay_D9 q2) rfl in_Sp ty_Sp nm_Sp (by decide) t_613 (Or.inl rfl) rfl rfl rfl (by decide +kernel) rfl rfl (by show _ < List.length _; simp) d_Sp_init_11 (wσ_dx9_1 q2 _) ?_
  exact g_vret hX rfl d_Sp_init_14 ⟨_, rfl, rfl, h⟩

def wp_Me_init (Γ : Ev) (n0 : Nat) (x1 : Int32) (x2 : Int32) (σ : St) (post : St → Prop) (thr : String → St → Prop) : Prop := (n0 < Γ.nd ∧ (Γ.K n0 = 10 ∧ wp_De_init Γ n0 (σ) (fun σ3 => post (St.sI (St.sI (σ3) 10 n0 x1) 11 n0 x2)) thr))
abbrev rm_Me_init : Room := { frames := 2, cells := 0, slots := 0, locals := 40 }
set_option maxRecDepth 100000 in
set_option maxHeartbeats 4000000 in
theorem c_Me_init {l : Launch} {D : va_G} {AC : Nat → ClassId} {lo : Nat} {Γ : Ev} {n0 : Nat} {x1 : Int32} {x2 : Int32} {σ : St} {post : St → Prop} {thr : String → St → Prop} (h : wp_Me_init Γ n0 x1 x2 σ post thr) : Ct l y_Me_init hd_Me_init rm_Me_init D AC lo [.ref (Γ.ad (344 + n0)), .int (x1), .int (x2)] (wσ AC Γ σ) (pV AC Γ post) (tX AC Γ thr) := by
  refine Ct.of (by decide) (Nat.le_of_ble_eq_true rfl) ?_
  intro p e s m args below meth c hadm hX
  unfold wp_Me_init at h
  obtain ⟨q1, q2, h⟩ := h
  show G p l e rm_Me_init s m args below meth c 3 D lo (pV AC Γ post) (tX AC Γ thr) (wσ AC Γ (σ)) 0 0 0 [(0, .ref (Γ.ad (344 + n0))), (1, .int (x1)), (2, .int (x2))] []
  refine g_aload_n hX d_Me_init_0 rfl 0 rfl ?_
  refine g_callIN (k := 0) (n := 0) hX (c_De_init h) hdT_De_init t_9 n_635 t_234 rfl ⟨⟨by decide, by decide⟩, np_De_init⟩ ⟨Nat.le_of_ble_eq_true rfl, Nat.le_of_ble_eq_true rfl⟩ (Nat.le_of_ble_eq_true rfl) d_Me_init_1 rfl ?_ (fun _ _ z => z)
  rintro _ _ ⟨σ3, rfl, rfl, h⟩
  refine g_aload_n hX d_Me_init_4 rfl 0 rfl ?_
  refine g_iload_n hX d_Me_init_5 rfl 1 rfl ?_
  refine g_putF (i := (344 + n0)) (kf := 4) (ty := .int) hX (lt_D q1) rfl (lay_D10 q2) rfl in_Me ty_Me nm_Me (by decide) t_636 (Or.inl rfl) rfl rfl rfl (by decide +kernel) rfl rfl (by show _ < List.length _; simp) d_Me_init_6 (wσ_dx10_0 q2 _) ?_
  refine g_aload_n hX d_Me_init_9 rfl 0 rfl ?_
  refine g_iload_n hX d_Me_init_10 rfl 2 rfl ?_
  refine g_putF (i := (344 + n0)) (kf := 5) (ty := .int) hX (lt_D q1) rfl (lay_D10 q2) rfl in_Me ty_Me nm_Me (by decide) t_637 (Or.inl rfl) rfl rfl rfl (by decide +kernel) rfl rfl (by show _ < List.length _; simp) d_Me_init_11 (wσ_dx10_1 q2 _) ?_
  exact g_vret hX rfl d_Me_init_14 ⟨_, rfl, rfl, h⟩
