def wp_Fo_hindrance (Γ : Ev) (n0 : Nat) (σ : St) (post : Int32 → St → Prop) (thr : String → St → Prop) : Prop := (n0 < Γ.nd ∧ (Γ.K n0 = 2 ∧ post (0 : Int32) (σ)))
abbrev rm_Fo_hindrance : Room := { frames := 0, cells := 0, slots := 0, locals := 0 }
set_option maxRecDepth 100000 in
set_option maxHeartbeats 4000000 in
theorem c_Fo_hindrance {l : Launch} {D : va_G} {AC : Nat → ClassId} {lo : Nat} {Γ : Ev} {n0 : Nat} {σ : St} {post : Int32 → St → Prop} {thr : String → St → Prop} (h : wp_Fo_hindrance Γ n0 σ post thr) : Ct l y_Fo_hindrance hd_Fo_hindrance rm_Fo_hindrance D AC lo [.ref (Γ.ad (344 + n0)), .ref (Γ.ad 3)] (wσ AC Γ σ) (pI AC Γ post) (tX AC Γ thr) := by
  refine Ct.of (by decide) (Nat.le_of_ble_eq_true rfl) ?_
  intro p e s m args below meth c hadm hX
  unfold wp_Fo_hindrance at h
  obtain ⟨q1, q2, h⟩ := h
  show G p l e rm_Fo_hindrance s m args below meth c 2 D lo (pI AC Γ post) (tX AC Γ thr) (wσ AC Γ (σ)) 0 0 0 [(0, .ref (Γ.ad (344 + n0))), (1, .ref (Γ.ad 3))] []
  refine g_iconst (v := 0) hX d_Fo_hindrance_0 (by decide) ?_
  exact g_iret hX rfl d_Fo_hindrance_1 ⟨_, _, rfl, rfl, h⟩

def wp_Fo_carryOut (Γ : Ev) (n0 : Nat) (σ : St) (post : St → Prop) (thr : String → St → Prop) : Prop := (n0 < Γ.nd ∧ (Γ.K n0 = 2 ∧ (vp_in ((2 : Int32) * (St.I (σ) 6 n0)) 80 ∧ wp_P_makeFor Γ ((((2 : Int32) * (St.I (σ) 6 n0))).toNatClampNeg) ((St.I (σ) 11 n0)) ((Int32.toInt64 (St.I (σ) 10 n0))) (σ) (fun σ5 => post (σ5)) thr)))
abbrev rm_Fo_carryOut : Room := { frames := 2, cells := 0, slots := 0, locals := 47 }
set_option maxRecDepth 100000 in
set_option maxHeartbeats 4000000 in
theorem c_Fo_carryOut {l : Launch} {D : va_G} {AC : Nat → ClassId} {lo : Nat} {Γ : Ev} {n0 : Nat} {σ : St} {post : St → Prop} {thr : String → St → Prop} (h : wp_Fo_carryOut Γ n0 σ post thr) : Ct l y_Fo_carryOut hd_Fo_carryOut rm_Fo_carryOut D AC lo [.ref (Γ.ad (344 + n0)), .ref (Γ.ad 3)] (wσ AC Γ σ) (pV AC Γ post) (tX AC Γ thr) := by
  refine Ct.of (by decide) (Nat.le_of_ble_eq_true rfl) ?_
  intro p e s m args below meth c hadm hX
  unfold wp_Fo_carryOut at h
  obtain ⟨q1, q2, h⟩ := h
  show G p l e rm_Fo_carryOut s m args below meth c 2 D lo (pV AC Γ post) (tX AC Γ thr) (wσ AC Γ (σ)) 0 0 0 [(0, .ref (Γ.ad (344 + n0))), (1, .ref (Γ.ad 3))] []
  refine g_aload_n hX d_Fo_carryOut_0 rfl 1 rfl ?_
  refine g_iconst (v := 2) hX d_Fo_carryOut_1 (by decide) ?_
  refine g_aload_n hX d_Fo_carryOut_2 rfl 0 rfl ?_
  refine g_getf (i := (344 + n0)) (kf := 0) hX (lt_D q1) rfl (lay_D2 q2) rfl in_Fo (by decide) t_239 (Or.inr t_240) rfl d_Fo_carryOut_3 ?_
  refine g_imul hX d_Fo_carryOut_6 ?_
  obtain ⟨q3, h⟩ := h
  refine g_aald (i := 3) 4 hX (lt_c (by decide)) rfl (lay_pa (AC := AC) (Γ := Γ) (σ := σ)) rfl q3 (if_pos (in_lt q3)) d_Fo_carryOut_7 ?_
  refine g_aload_n hX d_Fo_carryOut_8 rfl 0 rfl ?_
  refine g_getf (i := (344 + n0)) (kf := 5) hX (lt_D q1) rfl (lay_D2 q2) rfl in_Fo (by decide) t_238 (Or.inl rfl) rfl d_Fo_carryOut_9 ?_
  refine g_aload_n hX d_Fo_carryOut_12 rfl 0 rfl ?_
  refine g_getf (i := (344 + n0)) (kf := 4) hX (lt_D q1) rfl (lay_D2 q2) rfl in_Fo (by decide) t_237 (Or.inl rfl) rfl d_Fo_carryOut_13 ?_
  refine g_i2l hX d_Fo_carryOut_16 ?_
  refine g_callV (i := (4 + 4 * (((2 : Int32) * (St.I (σ) 6 n0))).toNatClampNeg)) (k := 0) (n := 0) hX (c_P_makeFor h) hdT_P_makeFor hdO_P_makeFor t_2 t_377 t_378 t_379 (lt_P (in_lt q3)) rfl (lay_p (in_lt q3)) rfl ⟨⟨by decide, by decide⟩, np_P_makeFor⟩ ⟨Nat.le_of_ble_eq_true rfl, Nat.le_of_ble_eq_true rfl⟩ (Nat.le_of_ble_eq_true rfl) d_Fo_carryOut_17 rfl ?_ (fun _ _ z => z)
  rintro _ _ ⟨σ5, rfl, rfl, h⟩
  exact g_vret hX rfl d_Fo_carryOut_20 ⟨_, rfl, rfl, h⟩

def wp_Se_hindrance_90 (Γ : Ev)  (post : Int32 → St → Prop) (thr : String → St → Prop) (s0 : Int32) (σ : St) : Prop := ((s0 = 0 → post (0 : Int32) (σ)) ∧ (¬ s0 = 0 → post (4 : Int32) (σ)))
def wp_Se_hindrance_85 (Γ : Ev)  (post : Int32 → St → Prop) (thr : String → St → Prop)  (σ : St) : Prop := wp_Se_hindrance_90 Γ  post thr ((1 : Int32)) (σ)
def wp_Se_hindrance (Γ : Ev) (n0 : Nat) (σ : St) (post : Int32 → St → Prop) (thr : String → St → Prop) : Prop := (n0 < Γ.nd ∧ (Γ.K n0 = 3 ∧ (vp_in (St.I (σ) 10 n0) 80 ∧ wp_P_closedness Γ (((St.I (σ) 10 n0)).toNatClampNeg) (σ) (fun v4 σ5 => ((v4 = 0 → (vp_in (St.I (σ5) 11 n0) 8 ∧ wp_LR_isLess Γ ((St.L (σ5) (100 + ((St.I (σ) 10 n0)).toNatClampNeg) ((St.I (σ5) 11 n0)).toNatClampNeg)) ((St.L (σ5) 2 n0)) (σ5) (fun v8 σ9 => ((v8 = 0 → (vp_in (St.I (σ9) 11 n0) 8 ∧ wp_LR_minus Γ ((St.L (σ9) (100 + ((St.I (σ) 10 n0)).toNatClampNeg) ((St.I (σ9) 11 n0)).toNatClampNeg)) ((St.L (σ9) 2 n0)) (σ9) (fun v12 σ13 => (((lg_cmp v12 (-1 : Int64)) = 0 → wp_Se_hindrance_85 Γ  post thr  (σ13)) ∧ (¬ (lg_cmp v12 (-1 : Int64)) = 0 → (vp_in (St.I (σ13) 12 n0) 8 ∧ wp_LR_plus Γ ((St.L (σ13) (100 + ((St.I (σ) 10 n0)).toNatClampNeg) ((St.I (σ13) 12 n0)).toNatClampNeg)) ((St.L (σ13) 2 n0)) (σ13) (fun v17 σ18 => ((¬ (lg_cmp v17 (-1 : Int64)) = 0 → wp_Se_hindrance_90 Γ  post thr ((0 : Int32)) (σ18)) ∧ ((lg_cmp v17 (-1 : Int64)) = 0 → wp_Se_hindrance_85 Γ  post thr  (σ18)))) thr)))) thr)) ∧ (¬ v8 = 0 → post (3 : Int32) (σ9)))) thr)) ∧ (¬ v4 = 0 → post v4 (σ5)))) thr)))
abbrev rm_Se_hindrance : Room := { frames := 3, cells := 0, slots := 0, locals := 84 }
set_option maxRecDepth 100000 in
set_option maxHeartbeats 4000000 in
theorem b_Se_hindrance_90 {p : Program} {l : Launch} {e : Env} {s : State} {m : MethodId} {args : Array Value} {below : List Frame} {meth : Method} {c : Code} {D : va_G} {AC : Nat → ClassId} {lo : Nat} {Γ : Ev} {post : Int32 → St → Prop} {thr : String → St → Prop} (hX : Cx p s m args meth c y_Se_hindrance b_Se_hindrance 5 (some .int) [] D AC lo)   (s0 : Int32) (σ : St) (h : wp_Se_hindrance_90 Γ  post thr s0 σ) : G p l e rm_Se_hindrance s m args below meth c 5 D lo (pI AC Γ post) (tX AC Γ thr) (wσ AC Γ (σ)) 0 0 90 [] [.int (s0)] := by
  unfold wp_Se_hindrance_90 at h
  refine g_istore hX d_Se_hindrance_90 (by decide) rfl ?_
  refine g_iload hX d_Se_hindrance_92 0 rfl ?_
  refine g_if_eq (tgt := 101) hX d_Se_hindrance_94 (by decide) (fun q15 => ?_) (fun q15 => ?_)
  · have h := h.1 q15
    refine g_iconst (v := 0) hX d_Se_hindrance_101 (by decide) ?_
    exact g_iret hX rfl d_Se_hindrance_102 ⟨_, _, rfl, rfl, h⟩
  · have h := h.2 q15
    refine g_iconst (v := 4) hX d_Se_hindrance_97 (by decide) ?_
    refine g_goto (tgt := 102) hX d_Se_hindrance_98 (by decide) ?_
    exact g_iret hX rfl d_Se_hindrance_102 ⟨_, _, rfl, rfl, h⟩
set_option maxRecDepth 100000 in
set_option maxHeartbeats 4000000 in
theorem b_Se_hindrance_85 {p : Program} {l : Launch} {e : Env} {s : State} {m : MethodId} {args : Array Value} {below : List Frame} {meth : Method} {c : Code} {D : va_G} {AC : Nat → ClassId} {lo : Nat} {Γ : Ev} {post : Int32 → St → Prop} {thr : String → St → Prop} (hX : Cx p s m args meth c y_Se_hindrance b_Se_hindrance 5 (some .int) [] D AC lo)    (σ : St) (h : wp_Se_hindrance_85 Γ  post thr  σ) : G p l e rm_Se_hindrance s m args below meth c 5 D lo (pI AC Γ post) (tX AC Γ thr) (wσ AC Γ (σ)) 0 0 85 [] [] := by
  unfold wp_Se_hindrance_85 at h
  refine g_iconst (v := 1) hX d_Se_hindrance_85 (by decide) ?_
  refine g_goto (tgt := 90) hX d_Se_hindrance_86 (by decide) ?_
  refine g_sub [] rfl ?_
  exact b_Se_hindrance_90 hX  _ _ h
set_option maxRecDepth 100000 in
set_option maxHeartbeats 4000000 in
theorem c_Se_hindrance {l : Launch} {D : va_G} {AC : Nat → ClassId} {lo : Nat} {Γ : Ev} {n0 : Nat} {σ : St} {post : Int32 → St → Prop} {thr : String → St → Prop} (h : wp_Se_hindrance Γ n0 σ post thr) : Ct l y_Se_hindrance hd_Se_hindrance rm_Se_hindrance D AC lo [.ref (Γ.ad (344 + n0)), .ref (Γ.ad 3)] (wσ AC Γ σ) (pI AC Γ post) (tX AC Γ thr) := by
  refine Ct.of (by decide) (Nat.le_of_ble_eq_true rfl) ?_
  intro p e s m args below meth c hadm hX
  unfold wp_Se_hindrance at h
  obtain ⟨q1, q2, h⟩ := h
  show G p l e rm_Se_hindrance s m args below meth c 5 D lo (pI AC Γ post) (tX AC Γ thr) (wσ AC Γ (σ)) 0 0 0 [(0, .ref (Γ.ad (344 + n0))), (1, .ref (Γ.ad 3))] []
  refine g_aload_n hX d_Se_hindrance_0 rfl 1 rfl ?_
  refine g_aload_n hX d_Se_hindrance_1 rfl 0 rfl ?_
  refine g_getf (i := (344 + n0)) (kf := 4) hX (lt_D q1) rfl (lay_D3 q2) rfl in_Se (by decide) t_450 (Or.inl rfl) rfl d_Se_hindrance_2 ?_
  obtain ⟨q3, h⟩ := h
  refine g_aald (i := 3) 4 hX (lt_c (by decide)) rfl (lay_pa (AC := AC) (Γ := Γ) (σ := σ)) rfl q3 (if_pos (in_lt q3)) d_Se_hindrance_5 ?_
  refine g_astore_n hX d_Se_hindrance_6 rfl (by decide) rfl ?_
  refine g_aload_n hX d_Se_hindrance_7 rfl 0 rfl ?_
  refine g_callV (i := (4 + 4 * ((St.I (σ) 10 n0)).toNatClampNeg)) (k := 0) (n := 0) hX (c_P_closedness h) hdT_P_closedness hdO_P_closedness t_2 t_332 t_307 t_308 (lt_P (in_lt q3)) rfl (lay_p (in_lt q3)) rfl ⟨⟨by decide, by decide⟩, np_P_closedness⟩ ⟨Nat.le_of_ble_eq_true rfl, Nat.le_of_ble_eq_true rfl⟩ (Nat.le_of_ble_eq_true rfl) d_Se_hindrance_8 rfl ?_ (fun _ _ z => z)
  rintro _ _ ⟨v4, σ5, rfl, rfl, h⟩
  refine g_istore_n hX d_Se_hindrance_11 rfl (by decide) rfl ?_
  refine g_iload_n hX d_Se_hindrance_12 rfl 0 rfl ?_
  refine g_if_eq (tgt := 18) hX d_Se_hindrance_13 (by decide) (fun q6 => ?_) (fun q6 => ?_)
  · have h := h.1 q6
    refine g_aload_n hX d_Se_hindrance_18 rfl 1 rfl ?_
    refine g_getf (i := (4 + 4 * ((St.I (σ) 10 n0)).toNatClampNeg)) (kf := 2) hX (lt_P (in_lt q3)) rfl (lay_p (in_lt q3)) rfl in_P (by decide) t_52 (Or.inl rfl) rfl d_Se_hindrance_19 ?_
    refine g_aload_n hX d_Se_hindrance_22 rfl 2 rfl ?_
    refine g_getf (i := (344 + n0)) (kf := 5) hX (lt_D q1) rfl (lay_D3 q2) rfl in_Se (by decide) t_451 (Or.inl rfl) rfl d_Se_hindrance_23 ?_
    obtain ⟨q7, h⟩ := h
    refine g_lald (i := (5 + 4 * ((St.I (σ) 10 n0)).toNatClampNeg)) hX (lt_sh (in_lt q3)) rfl (lay_sh (in_lt q3)) q7 d_Se_hindrance_26 ?_
    refine g_aload_n hX d_Se_hindrance_27 rfl 2 rfl ?_
    refine g_getf (i := (344 + n0)) (kf := 7) hX (lt_D q1) rfl (lay_D3 q2) rfl in_Se (by decide) t_453 (Or.inl rfl) rfl d_Se_hindrance_28 ?_
    refine g_callSN (k := 0) (n := 0) hX (c_LR_isLess h) hdT_LR_isLess hdO_LR_isLess t_1 n_333 t_334 ⟨⟨by decide, by decide⟩, np_LR_isLess⟩ ⟨Nat.le_of_ble_eq_true rfl, Nat.le_of_ble_eq_true rfl⟩ (Nat.le_of_ble_eq_true rfl) d_Se_hindrance_31 rfl ?_ (fun _ _ z => z)
    rintro _ _ ⟨v8, σ9, rfl, rfl, h⟩
    refine g_if_eq (tgt := 39) hX d_Se_hindrance_34 (by decide) (fun q10 => ?_) (fun q10 => ?_)
    · have h := h.1 q10
      refine g_aload_n hX d_Se_hindrance_39 rfl 1 rfl ?_
      refine g_getf (i := (4 + 4 * ((St.I (σ) 10 n0)).toNatClampNeg)) (kf := 2) hX (lt_P (in_lt q3)) rfl (lay_p (in_lt q3)) rfl in_P (by decide) t_52 (Or.inl rfl) rfl d_Se_hindrance_40 ?_
      refine g_aload_n hX d_Se_hindrance_43 rfl 2 rfl ?_
      refine g_getf (i := (344 + n0)) (kf := 5) hX (lt_D q1) rfl (lay_D3 q2) rfl in_Se (by decide) t_451 (Or.inl rfl) rfl d_Se_hindrance_44 ?_
      obtain ⟨q11, h⟩ := h
      refine g_lald (i := (5 + 4 * ((St.I (σ) 10 n0)).toNatClampNeg)) hX (lt_sh (in_lt q3)) rfl (lay_sh (in_lt q3)) q11 d_Se_hindrance_47 ?_
      refine g_aload_n hX d_Se_hindrance_48 rfl 2 rfl ?_
      refine g_getf (i := (344 + n0)) (kf := 7) hX (lt_D q1) rfl (lay_D3 q2) rfl in_Se (by decide) t_453 (Or.inl rfl) rfl d_Se_hindrance_49 ?_
      refine g_callSN (k := 0) (n := 0) hX (c_LR_minus h) hdT_LR_minus hdO_LR_minus t_1 n_349 t_350 ⟨⟨by decide, by decide⟩, np_LR_minus⟩ ⟨Nat.le_of_ble_eq_true rfl, Nat.le_of_ble_eq_true rfl⟩ (Nat.le_of_ble_eq_true rfl) d_Se_hindrance_52 rfl ?_ (fun _ _ z => z)
      rintro _ _ ⟨v12, σ13, rfl, rfl, h⟩
      refine g_ldc2 (v := -1) hX t_360 d_Se_hindrance_55 ?_
      refine g_lcmp hX d_Se_hindrance_58 ?_
      refine g_if_eq (tgt := 85) hX d_Se_hindrance_59 (by decide) (fun q14 => ?_) (fun q14 => ?_)
      · have h := h.1 q14
        refine g_sub [] rfl ?_
        exact b_Se_hindrance_85 hX   _ h
      · have h := h.2 q14
        refine g_aload_n hX d_Se_hindrance_62 rfl 1 rfl ?_
        refine g_getf (i := (4 + 4 * ((St.I (σ) 10 n0)).toNatClampNeg)) (kf := 2) hX (lt_P (in_lt q3)) rfl (lay_p (in_lt q3)) rfl in_P (by decide) t_52 (Or.inl rfl) rfl d_Se_hindrance_63 ?_
        refine g_aload_n hX d_Se_hindrance_66 rfl 2 rfl ?_
        refine g_getf (i := (344 + n0)) (kf := 6) hX (lt_D q1) rfl (lay_D3 q2) rfl in_Se (by decide) t_452 (Or.inl rfl) rfl d_Se_hindrance_67 ?_
        obtain ⟨q16, h⟩ := h
        refine g_lald (i := (5 + 4 * ((St.I (σ) 10 n0)).toNatClampNeg)) hX (lt_sh (in_lt q3)) rfl (lay_sh (in_lt q3)) q16 d_Se_hindrance_70 ?_
        refine g_aload_n hX d_Se_hindrance_71 rfl 2 rfl ?_
        refine g_getf (i := (344 + n0)) (kf := 7) hX (lt_D q1) rfl (lay_D3 q2) rfl in_Se (by decide) t_453 (Or.inl rfl) rfl d_Se_hindrance_72 ?_
        refine g_callSN (k := 0) (n := 0) hX (c_LR_plus h) hdT_LR_plus hdO_LR_plus t_1 n_361 t_362 ⟨⟨by decide, by decide⟩, np_LR_plus⟩ ⟨Nat.le_of_ble_eq_true rfl, Nat.le_of_ble_eq_true rfl⟩ (Nat.le_of_ble_eq_true rfl) d_Se_hindrance_75 rfl ?_ (fun _ _ z => z)
        rintro _ _ ⟨v17, σ18, rfl, rfl, h⟩
        refine g_ldc2 (v := -1) hX t_360 d_Se_hindrance_78 ?_
        refine g_lcmp hX d_Se_hindrance_81 ?_
        refine g_if_ne (tgt := 89) hX d_Se_hindrance_82 (by decide) (fun q19 => ?_) (fun q19 => ?_)
        · have h := h.1 q19
          refine g_iconst (v := 0) hX d_Se_hindrance_89 (by decide) ?_
          refine g_sub [] rfl ?_
          exact b_Se_hindrance_90 hX  _ _ h
        · have h := h.2 q19
          refine g_sub [] rfl ?_
          exact b_Se_hindrance_85 hX   _ h
    · have h := h.2 q10
      refine g_iconst (v := 3) hX d_Se_hindrance_37 (by decide) ?_
      exact g_iret hX rfl d_Se_hindrance_38 ⟨_, _, rfl, rfl, h⟩
  · have h := h.2 q6
    refine g_iload_n hX d_Se_hindrance_16 rfl 0 rfl ?_
    exact g_iret hX rfl d_Se_hindrance_17 ⟨_, _, rfl, rfl, h⟩

def wp_Se_carryOut (Γ : Ev) (n0 : Nat) (σ : St) (post : St → Prop) (thr : String → St → Prop) : Prop := (n0 < Γ.nd ∧ (Γ.K n0 = 3 ∧ (vp_in (St.I (σ) 10 n0) 80 ∧ (vp_in (St.I (σ) 11 n0) 8 ∧ wp_LR_minus Γ ((St.L (σ) (100 + ((St.I (σ) 10 n0)).toNatClampNeg) ((St.I (σ) 11 n0)).toNatClampNeg)) ((St.L (σ) 2 n0)) (σ) (fun v5 σ6 => (vp_in (St.I (σ) 11 n0) 8 ∧ (vp_in (St.I (St.sL (σ6) (100 + ((St.I (σ) 10 n0)).toNatClampNeg) ((St.I (σ) 11 n0)).toNatClampNeg v5) 12 n0) 8 ∧ wp_LR_plus Γ ((St.L (St.sL (σ6) (100 + ((St.I (σ) 10 n0)).toNatClampNeg) ((St.I (σ) 11 n0)).toNatClampNeg v5) (100 + ((St.I (σ) 10 n0)).toNatClampNeg) ((St.I (St.sL (σ6) (100 + ((St.I (σ) 10 n0)).toNatClampNeg) ((St.I (σ) 11 n0)).toNatClampNeg v5) 12 n0)).toNatClampNeg)) ((St.L (St.sL (σ6) (100 + ((St.I (σ) 10 n0)).toNatClampNeg) ((St.I (σ) 11 n0)).toNatClampNeg v5) 2 n0)) (St.sL (σ6) (100 + ((St.I (σ) 10 n0)).toNatClampNeg) ((St.I (σ) 11 n0)).toNatClampNeg v5) (fun v9 σ10 => (vp_in (St.I (St.sL (σ6) (100 + ((St.I (σ) 10 n0)).toNatClampNeg) ((St.I (σ) 11 n0)).toNatClampNeg v5) 12 n0) 8 ∧ post (St.sL (σ10) (100 + ((St.I (σ) 10 n0)).toNatClampNeg) ((St.I (St.sL (σ6) (100 + ((St.I (σ) 10 n0)).toNatClampNeg) ((St.I (σ) 11 n0)).toNatClampNeg v5) 12 n0)).toNatClampNeg v9))) thr))) thr))))
abbrev rm_Se_carryOut : Room := { frames := 3, cells := 0, slots := 0, locals := 84 }
set_option maxRecDepth 100000 in
set_option maxHeartbeats 4000000 in
theorem c_Se_carryOut {l : Launch} {D : va_G} {AC : Nat → ClassId} {lo : Nat} {Γ : Ev} {n0 : Nat} {σ : St} {post : St → Prop} {thr : String → St → Prop} (h : wp_Se_carryOut Γ n0 σ post thr) : Ct l y_Se_carryOut hd_Se_carryOut rm_Se_carryOut D AC lo [.ref (Γ.ad (344 + n0)), .ref (Γ.ad 3)] (wσ AC Γ σ) (pV AC Γ post) (tX AC Γ thr) := by
  refine Ct.of (by decide) (Nat.le_of_ble_eq_true rfl) ?_
  intro p e s m args below meth c hadm hX
  unfold wp_Se_carryOut at h
  obtain ⟨q1, q2, h⟩ := h
  show G p l e rm_Se_carryOut s m args below meth c 3 D lo (pV AC Γ post) (tX AC Γ thr) (wσ AC Γ (σ)) 0 0 0 [(0, .ref (Γ.ad (344 + n0))), (1, .ref (Γ.ad 3))] []
  refine g_aload_n hX d_Se_carryOut_0 rfl 1 rfl ?_
  refine g_aload_n hX d_Se_carryOut_1 rfl 0 rfl ?_
  refine g_getf (i := (344 + n0)) (kf := 4) hX (lt_D q1) rfl (lay_D3 q2) rfl in_Se (by decide) t_450 (Or.inl rfl) rfl d_Se_carryOut_2 ?_
  obtain ⟨q3, h⟩ := h
  refine g_aald (i := 3) 4 hX (lt_c (by decide)) rfl (lay_pa (AC := AC) (Γ := Γ) (σ := σ)) rfl q3 (if_pos (in_lt q3)) d_Se_carryOut_5 ?_
  refine g_getf (i := (4 + 4 * ((St.I (σ) 10 n0)).toNatClampNeg)) (kf := 2) hX (lt_P (in_lt q3)) rfl (lay_p (in_lt q3)) rfl in_P (by decide) t_52 (Or.inl rfl) rfl d_Se_carryOut_6 ?_
  refine g_astore_n hX d_Se_carryOut_9 rfl (by decide) rfl ?_
  refine g_aload_n hX d_Se_carryOut_10 rfl 0 rfl ?_
  refine g_aload_n hX d_Se_carryOut_11 rfl 1 rfl ?_
  refine g_getf (i := (344 + n0)) (kf := 5) hX (lt_D q1) rfl (lay_D3 q2) rfl in_Se (by decide) t_451 (Or.inl rfl) rfl d_Se_carryOut_12 ?_
  refine g_aload_n hX d_Se_carryOut_15 rfl 0 rfl ?_
  refine g_aload_n hX d_Se_carryOut_16 rfl 1 rfl ?_
  refine g_getf (i := (344 + n0)) (kf := 5) hX (lt_D q1) rfl (lay_D3 q2) rfl in_Se (by decide) t_451 (Or.inl rfl) rfl d_Se_carryOut_17 ?_
  obtain ⟨q4, h⟩ := h
  refine g_lald (i := (5 + 4 * ((St.I (σ) 10 n0)).toNatClampNeg)) hX (lt_sh (in_lt q3)) rfl (lay_sh (in_lt q3)) q4 d_Se_carryOut_20 ?_
  refine g_aload_n hX d_Se_carryOut_21 rfl 1 rfl ?_
  refine g_getf (i := (344 + n0)) (kf := 7) hX (lt_D q1) rfl (lay_D3 q2) rfl in_Se (by decide) t_453 (Or.inl rfl) rfl d_Se_carryOut_22 ?_
  refine g_callSN (k := 0) (n := 0) hX (c_LR_minus h) hdT_LR_minus hdO_LR_minus t_1 n_349 t_350 ⟨⟨by decide, by decide⟩, np_LR_minus⟩ ⟨Nat.le_of_ble_eq_true rfl, Nat.le_of_ble_eq_true rfl⟩ (Nat.le_of_ble_eq_true rfl) d_Se_carryOut_25 rfl ?_ (fun _ _ z => z)
  rintro _ _ ⟨v5, σ6, rfl, rfl, h⟩
  obtain ⟨q7, h⟩ := h
  refine g_last (i := (5 + 4 * ((St.I (σ) 10 n0)).toNatClampNeg)) hX (lt_sh (in_lt q3)) rfl (lay_sh (in_lt q3)) q7 d_Se_carryOut_28 (wσ_sh (in_lt q3) (vp_updL (St.L (σ6) (100 + ((St.I (σ) 10 n0)).toNatClampNeg)) ((St.I (σ) 11 n0)).toNatClampNeg v5)) ?_
  refine g_aload_n hX d_Se_carryOut_29 rfl 0 rfl ?_
  refine g_aload_n hX d_Se_carryOut_30 rfl 1 rfl ?_
  refine g_getf (i := (344 + n0)) (kf := 6) hX (lt_D q1) rfl (lay_D3 q2) rfl in_Se (by decide) t_452 (Or.inl rfl) rfl d_Se_carryOut_31 ?_
  refine g_aload_n hX d_Se_carryOut_34 rfl 0 rfl ?_
  refine g_aload_n hX d_Se_carryOut_35 rfl 1 rfl ?_
  refine g_getf (i := (344 + n0)) (kf := 6) hX (lt_D q1) rfl (lay_D3 q2) rfl in_Se (by decide) t_452 (Or.inl rfl) rfl d_Se_carryOut_36 ?_
  obtain ⟨q8, h⟩ := h
  refine g_lald (i := (5 + 4 * ((St.I (σ) 10 n0)).toNatClampNeg)) hX (lt_sh (in_lt q3)) rfl (lay_sh (in_lt q3)) q8 d_Se_carryOut_39 ?_
  refine g_aload_n hX d_Se_carryOut_40 rfl 1 rfl ?_
  refine g_getf (i := (344 + n0)) (kf := 7) hX (lt_D q1) rfl (lay_D3 q2) rfl in_Se (by decide) t_453 (Or.inl rfl) rfl d_Se_carryOut_41 ?_
  refine g_callSN (k := 0) (n := 0) hX (c_LR_plus h) hdT_LR_plus hdO_LR_plus t_1 n_361 t_362 ⟨⟨by decide, by decide⟩, np_LR_plus⟩ ⟨Nat.le_of_ble_eq_true rfl, Nat.le_of_ble_eq_true rfl⟩ (Nat.le_of_ble_eq_true rfl) d_Se_carryOut_44 rfl ?_ (fun _ _ z => z)
  rintro _ _ ⟨v9, σ10, rfl, rfl, h⟩
  obtain ⟨q11, h⟩ := h
  refine g_last (i := (5 + 4 * ((St.I (σ) 10 n0)).toNatClampNeg)) hX (lt_sh (in_lt q3)) rfl (lay_sh (in_lt q3)) q11 d_Se_carryOut_47 (wσ_sh (in_lt q3) (vp_updL (St.L (σ10) (100 + ((St.I (σ) 10 n0)).toNatClampNeg)) ((St.I (St.sL (σ6) (100 + ((St.I (σ) 10 n0)).toNatClampNeg) ((St.I (σ) 11 n0)).toNatClampNeg v5) 12 n0)).toNatClampNeg v9)) ?_
  exact g_vret hX rfl d_Se_carryOut_48 ⟨_, rfl, rfl, h⟩

def wp_Pl_hindrance (Γ : Ev) (n0 : Nat) (σ : St) (post : Int32 → St → Prop) (thr : String → St → Prop) : Prop := (n0 < Γ.nd ∧ (Γ.K n0 = 4 ∧ (vp_in (St.I (σ) 10 n0) 80 ∧ wp_P_closedness Γ (((St.I (σ) 10 n0)).toNatClampNeg) (σ) (fun v4 σ5 => ((v4 = 0 → (((St.I (σ5) 2 (((St.I (σ) 10 n0)).toNatClampNeg)) < (4 : Int32) → post (0 : Int32) (σ5)) ∧ (¬ (St.I (σ5) 2 (((St.I (σ) 10 n0)).toNatClampNeg)) < (4 : Int32) → post (5 : Int32) (σ5)))) ∧ (¬ v4 = 0 → post v4 (σ5)))) thr)))
abbrev rm_Pl_hindrance : Room := { frames := 1, cells := 0, slots := 0, locals := 20 }
set_option maxRecDepth 100000 in
set_option maxHeartbeats 4000000 in
theorem c_Pl_hindrance {l : Launch} {D : va_G} {AC : Nat → ClassId} {lo : Nat} {Γ : Ev} {n0 : Nat} {σ : St} {post : Int32 → St → Prop} {thr : String → St → Prop} (h : wp_Pl_hindrance Γ n0 σ post thr) : Ct l y_Pl_hindrance hd_Pl_hindrance rm_Pl_hindrance D AC lo [.ref (Γ.ad (344 + n0)), .ref (Γ.ad 3)] (wσ AC Γ σ) (pI AC Γ post) (tX AC Γ thr) := by
  refine Ct.of (by decide) (Nat.le_of_ble_eq_true rfl) ?_
  intro p e s m args below meth c hadm hX
  unfold wp_Pl_hindrance at h
  obtain ⟨q1, q2, h⟩ := h
  show G p l e rm_Pl_hindrance s m args below meth c 4 D lo (pI AC Γ post) (tX AC Γ thr) (wσ AC Γ (σ)) 0 0 0 [(0, .ref (Γ.ad (344 + n0))), (1, .ref (Γ.ad 3))] []
  refine g_aload_n hX d_Pl_hindrance_0 rfl 1 rfl ?_
  refine g_aload_n hX d_Pl_hindrance_1 rfl 0 rfl ?_
  refine g_getf (i := (344 + n0)) (kf := 4) hX (lt_D q1) rfl (lay_D4 q2) rfl in_Pl (by decide) t_480 (Or.inl rfl) rfl d_Pl_hindrance_2 ?_
  obtain ⟨q3, h⟩ := h
  refine g_aald (i := 3) 4 hX (lt_c (by decide)) rfl (lay_pa (AC := AC) (Γ := Γ) (σ := σ)) rfl q3 (if_pos (in_lt q3)) d_Pl_hindrance_5 ?_
  refine g_astore_n hX d_Pl_hindrance_6 rfl (by decide) rfl ?_
  refine g_aload_n hX d_Pl_hindrance_7 rfl 0 rfl ?_
  refine g_callV (i := (4 + 4 * ((St.I (σ) 10 n0)).toNatClampNeg)) (k := 0) (n := 0) hX (c_P_closedness h) hdT_P_closedness hdO_P_closedness t_2 t_306 t_307 t_308 (lt_P (in_lt q3)) rfl (lay_p (in_lt q3)) rfl ⟨⟨by decide, by decide⟩, np_P_closedness⟩ ⟨Nat.le_of_ble_eq_true rfl, Nat.le_of_ble_eq_true rfl⟩ (Nat.le_of_ble_eq_true rfl) d_Pl_hindrance_8 rfl ?_ (fun _ _ z => z)
  rintro _ _ ⟨v4, σ5, rfl, rfl, h⟩
  refine g_istore_n hX d_Pl_hindrance_11 rfl (by decide) rfl ?_
  refine g_iload_n hX d_Pl_hindrance_12 rfl 0 rfl ?_
  refine g_if_eq (tgt := 18) hX d_Pl_hindrance_13 (by decide) (fun q6 => ?_) (fun q6 => ?_)
  · have h := h.1 q6
    refine g_aload_n hX d_Pl_hindrance_18 rfl 1 rfl ?_
    refine g_getf (i := (4 + 4 * ((St.I (σ) 10 n0)).toNatClampNeg)) (kf := 3) hX (lt_P (in_lt q3)) rfl (lay_p (in_lt q3)) rfl in_P (by decide) t_54 (Or.inl rfl) rfl d_Pl_hindrance_19 ?_
    refine g_iconst (v := 4) hX d_Pl_hindrance_22 (by decide) ?_
    refine g_icmp_lt (tgt := 30) hX d_Pl_hindrance_23 (by decide) (fun q7 => ?_) (fun q7 => ?_)
    · have h := h.1 q7
      refine g_iconst (v := 0) hX d_Pl_hindrance_30 (by decide) ?_
      exact g_iret hX rfl d_Pl_hindrance_31 ⟨_, _, rfl, rfl, h⟩
    · have h := h.2 q7
      refine g_iconst (v := 5) hX d_Pl_hindrance_26 (by decide) ?_
      refine g_goto (tgt := 31) hX d_Pl_hindrance_27 (by decide) ?_
      exact g_iret hX rfl d_Pl_hindrance_31 ⟨_, _, rfl, rfl, h⟩
  · have h := h.2 q6
    refine g_iload_n hX d_Pl_hindrance_16 rfl 0 rfl ?_
    exact g_iret hX rfl d_Pl_hindrance_17 ⟨_, _, rfl, rfl, h⟩

def wp_Pl_carryOut (Γ : Ev) (n0 : Nat) (σ : St) (post : St → Prop) (thr : String → St → Prop) : Prop := (n0 < Γ.nd ∧ (Γ.K n0 = 4 ∧ (vp_in (St.I (σ) 10 n0) 80 ∧ wp_P_addMortgage Γ (((St.I (σ) 10 n0)).toNatClampNeg) (((St.I (σ) 2 (((St.I (σ) 10 n0)).toNatClampNeg)) + (1 : Int32))) ((St.I (σ) 11 n0)) ((St.I (σ) 12 n0)) (σ) (fun σ5 => post (σ5)) thr)))
abbrev rm_Pl_carryOut : Room := { frames := 2, cells := 0, slots := 0, locals := 84 }
set_option maxRecDepth 100000 in
set_option maxHeartbeats 4000000 in
theorem c_Pl_carryOut {l : Launch} {D : va_G} {AC : Nat → ClassId} {lo : Nat} {Γ : Ev} {n0 : Nat} {σ : St} {post : St → Prop} {thr : String → St → Prop} (h : wp_Pl_carryOut Γ n0 σ post thr) : Ct l y_Pl_carryOut hd_Pl_carryOut rm_Pl_carryOut D AC lo [.ref (Γ.ad (344 + n0)), .ref (Γ.ad 3)] (wσ AC Γ σ) (pV AC Γ post) (tX AC Γ thr) := by
  refine Ct.of (by decide) (Nat.le_of_ble_eq_true rfl) ?_
  intro p e s m args below meth c hadm hX
  unfold wp_Pl_carryOut at h
  obtain ⟨q1, q2, h⟩ := h
  show G p l e rm_Pl_carryOut s m args below meth c 3 D lo (pV AC Γ post) (tX AC Γ thr) (wσ AC Γ (σ)) 0 0 0 [(0, .ref (Γ.ad (344 + n0))), (1, .ref (Γ.ad 3))] []
  refine g_aload_n hX d_Pl_carryOut_0 rfl 1 rfl ?_
  refine g_aload_n hX d_Pl_carryOut_1 rfl 0 rfl ?_
  refine g_getf (i := (344 + n0)) (kf := 4) hX (lt_D q1) rfl (lay_D4 q2) rfl in_Pl (by decide) t_480 (Or.inl rfl) rfl d_Pl_carryOut_2 ?_
  obtain ⟨q3, h⟩ := h
  refine g_aald (i := 3) 4 hX (lt_c (by decide)) rfl (lay_pa (AC := AC) (Γ := Γ) (σ := σ)) rfl q3 (if_pos (in_lt q3)) d_Pl_carryOut_5 ?_
  refine g_astore_n hX d_Pl_carryOut_6 rfl (by decide) rfl ?_
  refine g_aload_n hX d_Pl_carryOut_7 rfl 0 rfl ?_
  refine g_aload_n hX d_Pl_carryOut_8 rfl 0 rfl ?_
  refine g_getf (i := (4 + 4 * ((St.I (σ) 10 n0)).toNatClampNeg)) (kf := 3) hX (lt_P (in_lt q3)) rfl (lay_p (in_lt q3)) rfl in_P (by decide) t_54 (Or.inl rfl) rfl d_Pl_carryOut_9 ?_
  refine g_iconst (v := 1) hX d_Pl_carryOut_12 (by decide) ?_
  refine g_iadd hX d_Pl_carryOut_13 ?_
  refine g_aload_n hX d_Pl_carryOut_14 rfl 1 rfl ?_
  refine g_getf (i := (344 + n0)) (kf := 5) hX (lt_D q1) rfl (lay_D4 q2) rfl in_Pl (by decide) t_481 (Or.inl rfl) rfl d_Pl_carryOut_15 ?_
  refine g_aload_n hX d_Pl_carryOut_18 rfl 1 rfl ?_
  refine g_getf (i := (344 + n0)) (kf := 6) hX (lt_D q1) rfl (lay_D4 q2) rfl in_Pl (by decide) t_482 (Or.inl rfl) rfl d_Pl_carryOut_19 ?_
  refine g_callV (i := (4 + 4 * ((St.I (σ) 10 n0)).toNatClampNeg)) (k := 0) (n := 0) hX (c_P_addMortgage h) hdT_P_addMortgage hdO_P_addMortgage t_2 t_401 t_402 t_403 (lt_P (in_lt q3)) rfl (lay_p (in_lt q3)) rfl ⟨⟨by decide, by decide⟩, np_P_addMortgage⟩ ⟨Nat.le_of_ble_eq_true rfl, Nat.le_of_ble_eq_true rfl⟩ (Nat.le_of_ble_eq_true rfl) d_Pl_carryOut_22 rfl ?_ (fun _ _ z => z)
  rintro _ _ ⟨σ5, rfl, rfl, h⟩
  exact g_vret hX rfl d_Pl_carryOut_25 ⟨_, rfl, rfl, h⟩

def wp_Re_consentsNeeded (Γ : Ev) (n0 : Nat) (p1 : Nat) (σ : St) (post : Int32 → St → Prop) (thr : String → St → Prop) : Prop := (n0 < Γ.nd ∧ (Γ.K n0 = 5 ∧ (p1 < 80 ∧ wp_P_creditorsOf Γ p1 ((St.I (σ) 11 n0)) ((St.I (σ) 11 n0)) (σ) (fun v4 σ5 => (((St.I (σ5) 12 n0) ≤ (St.I (σ5) 11 n0) → wp_P_creditorsOf Γ p1 ((St.I (σ5) 12 n0)) (((St.I (σ5) 11 n0) - (1 : Int32))) (σ5) (fun v7 σ8 => post (v7 &&& (v4 ^^^ (-1 : Int32))) (σ8)) thr) ∧ (¬ (St.I (σ5) 12 n0) ≤ (St.I (σ5) 11 n0) → wp_P_creditorsOf Γ p1 (((St.I (σ5) 11 n0) + (1 : Int32))) ((St.I (σ5) 12 n0)) (σ5) (fun v9 σ10 => post (v4 &&& (v9 ^^^ (-1 : Int32))) (σ10)) thr))) thr)))
abbrev rm_Re_consentsNeeded : Room := { frames := 1, cells := 0, slots := 0, locals := 24 }
set_option maxRecDepth 100000 in
set_option maxHeartbeats 4000000 in
theorem c_Re_consentsNeeded {l : Launch} {D : va_G} {AC : Nat → ClassId} {lo : Nat} {Γ : Ev} {n0 : Nat} {p1 : Nat} {σ : St} {post : Int32 → St → Prop} {thr : String → St → Prop} (h : wp_Re_consentsNeeded Γ n0 p1 σ post thr) : Ct l y_Re_consentsNeeded hd_Re_consentsNeeded rm_Re_consentsNeeded D AC lo [.ref (Γ.ad (344 + n0)), .ref (Γ.ad (4 + 4 * p1))] (wσ AC Γ σ) (pI AC Γ post) (tX AC Γ thr) := by
  refine Ct.of (by decide) (Nat.le_of_ble_eq_true rfl) ?_
  intro p e s m args below meth c hadm hX
  unfold wp_Re_consentsNeeded at h
  obtain ⟨q1, q2, q3, h⟩ := h
  show G p l e rm_Re_consentsNeeded s m args below meth c 3 D lo (pI AC Γ post) (tX AC Γ thr) (wσ AC Γ (σ)) 0 0 0 [(0, .ref (Γ.ad (344 + n0))), (1, .ref (Γ.ad (4 + 4 * p1)))] []
  refine g_aload_n hX d_Re_consentsNeeded_0 rfl 1 rfl ?_
  refine g_aload_n hX d_Re_consentsNeeded_1 rfl 0 rfl ?_
  refine g_getf (i := (344 + n0)) (kf := 5) hX (lt_D q1) rfl (lay_D5 q2) rfl in_Re (by decide) t_511 (Or.inl rfl) rfl d_Re_consentsNeeded_2 ?_
  refine g_aload_n hX d_Re_consentsNeeded_5 rfl 0 rfl ?_
  refine g_getf (i := (344 + n0)) (kf := 5) hX (lt_D q1) rfl (lay_D5 q2) rfl in_Re (by decide) t_511 (Or.inl rfl) rfl d_Re_consentsNeeded_6 ?_
  refine g_callV (i := (4 + 4 * p1)) (k := 0) (n := 0) hX (c_P_creditorsOf h) hdT_P_creditorsOf hdO_P_creditorsOf t_2 t_325 t_326 t_327 (lt_P q3) rfl (lay_p q3) rfl ⟨⟨by decide, by decide⟩, np_P_creditorsOf⟩ ⟨Nat.le_of_ble_eq_true rfl, Nat.le_of_ble_eq_true rfl⟩ (Nat.le_of_ble_eq_true rfl) d_Re_consentsNeeded_9 rfl ?_ (fun _ _ z => z)
  rintro _ _ ⟨v4, σ5, rfl, rfl, h⟩
  refine g_istore_n hX d_Re_consentsNeeded_12 rfl (by decide) rfl ?_
  refine g_aload_n hX d_Re_consentsNeeded_13 rfl 1 rfl ?_
  refine g_getf (i := (344 + n0)) (kf := 5) hX (lt_D q1) rfl (lay_D5 q2) rfl in_Re (by decide) t_511 (Or.inl rfl) rfl d_Re_consentsNeeded_14 ?_
  refine g_aload_n hX d_Re_consentsNeeded_17 rfl 1 rfl ?_
  refine g_getf (i := (344 + n0)) (kf := 6) hX (lt_D q1) rfl (lay_D5 q2) rfl in_Re (by decide) t_512 (Or.inl rfl) rfl d_Re_consentsNeeded_18 ?_
  refine g_icmp_ge (tgt := 43) hX d_Re_consentsNeeded_21 (by decide) (fun q6 => ?_) (fun q6 => ?_)
  · have h := h.1 q6
    refine g_aload_n hX d_Re_consentsNeeded_43 rfl 2 rfl ?_
    refine g_aload_n hX d_Re_consentsNeeded_44 rfl 1 rfl ?_
    refine g_getf (i := (344 + n0)) (kf := 6) hX (lt_D q1) rfl (lay_D5 q2) rfl in_Re (by decide) t_512 (Or.inl rfl) rfl d_Re_consentsNeeded_45 ?_
    refine g_aload_n hX d_Re_consentsNeeded_48 rfl 1 rfl ?_
    refine g_getf (i := (344 + n0)) (kf := 5) hX (lt_D q1) rfl (lay_D5 q2) rfl in_Re (by decide) t_511 (Or.inl rfl) rfl d_Re_consentsNeeded_49 ?_
    refine g_iconst (v := 1) hX d_Re_consentsNeeded_52 (by decide) ?_
    refine g_isub hX d_Re_consentsNeeded_53 ?_
    refine g_callV (i := (4 + 4 * p1)) (k := 0) (n := 0) hX (c_P_creditorsOf h) hdT_P_creditorsOf hdO_P_creditorsOf t_2 t_325 t_326 t_327 (lt_P q3) rfl (lay_p q3) rfl ⟨⟨by decide, by decide⟩, np_P_creditorsOf⟩ ⟨Nat.le_of_ble_eq_true rfl, Nat.le_of_ble_eq_true rfl⟩ (Nat.le_of_ble_eq_true rfl) d_Re_consentsNeeded_54 rfl ?_ (fun _ _ z => z)
    rintro _ _ ⟨v7, σ8, rfl, rfl, h⟩
    refine g_iload_n hX d_Re_consentsNeeded_57 rfl 0 rfl ?_
    refine g_iconst (v := -1) hX d_Re_consentsNeeded_58 (by decide) ?_
    refine g_ixor hX d_Re_consentsNeeded_59 ?_
    refine g_iand hX d_Re_consentsNeeded_60 ?_
    exact g_iret hX rfl d_Re_consentsNeeded_61 ⟨_, _, rfl, rfl, h⟩
  · have h := h.2 q6
    refine g_iload_n hX d_Re_consentsNeeded_24 rfl 0 rfl ?_
    refine g_aload_n hX d_Re_consentsNeeded_25 rfl 2 rfl ?_
    refine g_aload_n hX d_Re_consentsNeeded_26 rfl 1 rfl ?_
    refine g_getf (i := (344 + n0)) (kf := 5) hX (lt_D q1) rfl (lay_D5 q2) rfl in_Re (by decide) t_511 (Or.inl rfl) rfl d_Re_consentsNeeded_27 ?_
    refine g_iconst (v := 1) hX d_Re_consentsNeeded_30 (by decide) ?_
    refine g_iadd hX d_Re_consentsNeeded_31 ?_
    refine g_aload_n hX d_Re_consentsNeeded_32 rfl 1 rfl ?_
    refine g_getf (i := (344 + n0)) (kf := 6) hX (lt_D q1) rfl (lay_D5 q2) rfl in_Re (by decide) t_512 (Or.inl rfl) rfl d_Re_consentsNeeded_33 ?_
    refine g_callV (i := (4 + 4 * p1)) (k := 0) (n := 0) hX (c_P_creditorsOf h) hdT_P_creditorsOf hdO_P_creditorsOf t_2 t_325 t_326 t_327 (lt_P q3) rfl (lay_p q3) rfl ⟨⟨by decide, by decide⟩, np_P_creditorsOf⟩ ⟨Nat.le_of_ble_eq_true rfl, Nat.le_of_ble_eq_true rfl⟩ (Nat.le_of_ble_eq_true rfl) d_Re_consentsNeeded_36 rfl ?_ (fun _ _ z => z)
    rintro _ _ ⟨v9, σ10, rfl, rfl, h⟩
    refine g_iconst (v := -1) hX d_Re_consentsNeeded_39 (by decide) ?_
    refine g_ixor hX d_Re_consentsNeeded_40 ?_
    refine g_iand hX d_Re_consentsNeeded_41 ?_
    exact g_iret hX rfl d_Re_consentsNeeded_42 ⟨_, _, rfl, rfl, h⟩

def wp_Re_hindrance (Γ : Ev) (n0 : Nat) (σ : St) (post : Int32 → St → Prop) (thr : String → St → Prop) : Prop := (n0 < Γ.nd ∧ (Γ.K n0 = 5 ∧ (vp_in (St.I (σ) 10 n0) 80 ∧ wp_P_closedness Γ (((St.I (σ) 10 n0)).toNatClampNeg) (σ) (fun v4 σ5 => ((v4 = 0 → (((if (St.I (σ5) 11 n0) < (St.I (σ5) 12 n0) then (St.I (σ5) 12 n0) else (St.I (σ5) 11 n0)) ≤ (St.I (σ5) 2 (((St.I (σ) 10 n0)).toNatClampNeg)) → wp_Re_consentsNeeded Γ n0 (((St.I (σ) 10 n0)).toNatClampNeg) (σ5) (fun v8 σ9 => (((v8 &&& ((St.I (σ9) 13 n0) ^^^ (-1 : Int32))) = 0 → post (0 : Int32) (σ9)) ∧ (¬ (v8 &&& ((St.I (σ9) 13 n0) ^^^ (-1 : Int32))) = 0 → post (7 : Int32) (σ9)))) thr) ∧ (¬ (if (St.I (σ5) 11 n0) < (St.I (σ5) 12 n0) then (St.I (σ5) 12 n0) else (St.I (σ5) 11 n0)) ≤ (St.I (σ5) 2 (((St.I (σ) 10 n0)).toNatClampNeg)) → post (6 : Int32) (σ5)))) ∧ (¬ v4 = 0 → post v4 (σ5)))) thr)))
abbrev rm_Re_hindrance : Room := { frames := 2, cells := 0, slots := 0, locals := 46 }
set_option maxRecDepth 100000 in
set_option maxHeartbeats 4000000 in
theorem c_Re_hindrance {l : Launch} {D : va_G} {AC : Nat → ClassId} {lo : Nat} {Γ : Ev} {n0 : Nat} {σ : St} {post : Int32 → St → Prop} {thr : String → St → Prop} (h : wp_Re_hindrance Γ n0 σ post thr) : Ct l y_Re_hindrance hd_Re_hindrance rm_Re_hindrance D AC lo [.ref (Γ.ad (344 + n0)), .ref (Γ.ad 3)] (wσ AC Γ σ) (pI AC Γ post) (tX AC Γ thr) := by
  refine Ct.of (by decide) (Nat.le_of_ble_eq_true rfl) ?_
  intro p e s m args below meth c hadm hX
  unfold wp_Re_hindrance at h
  obtain ⟨q1, q2, h⟩ := h
  show G p l e rm_Re_hindrance s m args below meth c 4 D lo (pI AC Γ post) (tX AC Γ thr) (wσ AC Γ (σ)) 0 0 0 [(0, .ref (Γ.ad (344 + n0))), (1, .ref (Γ.ad 3))] []
  refine g_aload_n hX d_Re_hindrance_0 rfl 1 rfl ?_
  refine g_aload_n hX d_Re_hindrance_1 rfl 0 rfl ?_
  refine g_getf (i := (344 + n0)) (kf := 4) hX (lt_D q1) rfl (lay_D5 q2) rfl in_Re (by decide) t_510 (Or.inl rfl) rfl d_Re_hindrance_2 ?_
  obtain ⟨q3, h⟩ := h
  refine g_aald (i := 3) 4 hX (lt_c (by decide)) rfl (lay_pa (AC := AC) (Γ := Γ) (σ := σ)) rfl q3 (if_pos (in_lt q3)) d_Re_hindrance_5 ?_
  refine g_astore_n hX d_Re_hindrance_6 rfl (by decide) rfl ?_
  refine g_aload_n hX d_Re_hindrance_7 rfl 0 rfl ?_
  refine g_callV (i := (4 + 4 * ((St.I (σ) 10 n0)).toNatClampNeg)) (k := 0) (n := 0) hX (c_P_closedness h) hdT_P_closedness hdO_P_closedness t_2 t_316 t_307 t_308 (lt_P (in_lt q3)) rfl (lay_p (in_lt q3)) rfl ⟨⟨by decide, by decide⟩, np_P_closedness⟩ ⟨Nat.le_of_ble_eq_true rfl, Nat.le_of_ble_eq_true rfl⟩ (Nat.le_of_ble_eq_true rfl) d_Re_hindrance_8 rfl ?_ (fun _ _ z => z)
  rintro _ _ ⟨v4, σ5, rfl, rfl, h⟩
  refine g_istore_n hX d_Re_hindrance_11 rfl (by decide) rfl ?_
  refine g_iload_n hX d_Re_hindrance_12 rfl 0 rfl ?_
  refine g_if_eq (tgt := 18) hX d_Re_hindrance_13 (by decide) (fun q6 => ?_) (fun q6 => ?_)
  · have h := h.1 q6
    refine g_aload_n hX d_Re_hindrance_18 rfl 2 rfl ?_
    refine g_getf (i := (344 + n0)) (kf := 5) hX (lt_D q1) rfl (lay_D5 q2) rfl in_Re (by decide) t_511 (Or.inl rfl) rfl d_Re_hindrance_19 ?_
    refine g_aload_n hX d_Re_hindrance_22 rfl 2 rfl ?_
    refine g_getf (i := (344 + n0)) (kf := 6) hX (lt_D q1) rfl (lay_D5 q2) rfl in_Re (by decide) t_512 (Or.inl rfl) rfl d_Re_hindrance_23 ?_
    refine g_maxI hX ⟨t_317, t_318, t_11, t_maxI⟩ d_Re_hindrance_26 (Nat.le_of_ble_eq_true rfl) (Nat.le_of_ble_eq_true rfl) ?_
    refine g_aload_n hX d_Re_hindrance_29 rfl 1 rfl ?_
    refine g_getf (i := (4 + 4 * ((St.I (σ) 10 n0)).toNatClampNeg)) (kf := 3) hX (lt_P (in_lt q3)) rfl (lay_p (in_lt q3)) rfl in_P (by decide) t_56 (Or.inl rfl) rfl d_Re_hindrance_30 ?_
    refine g_icmp_le (tgt := 39) hX d_Re_hindrance_33 (by decide) (fun q7 => ?_) (fun q7 => ?_)
    · have h := h.1 q7
      refine g_aload_n hX d_Re_hindrance_39 rfl 2 rfl ?_
      refine g_aload_n hX d_Re_hindrance_40 rfl 1 rfl ?_
      refine g_callV (i := (344 + n0)) (k := 0) (n := 0) hX (c_Re_consentsNeeded h) hdT_Re_consentsNeeded hdO_Re_consentsNeeded t_16 t_320 t_322 ts_Re_consentsNeeded (lt_D q1) rfl (lay_D5 q2) rfl ⟨⟨by decide, by decide⟩, np_Re_consentsNeeded⟩ ⟨Nat.le_of_ble_eq_true rfl, Nat.le_of_ble_eq_true rfl⟩ (Nat.le_of_ble_eq_true rfl) d_Re_hindrance_41 rfl ?_ (fun _ _ z => z)
      rintro _ _ ⟨v8, σ9, rfl, rfl, h⟩
      refine g_aload_n hX d_Re_hindrance_44 rfl 2 rfl ?_
      refine g_getf (i := (344 + n0)) (kf := 7) hX (lt_D q1) rfl (lay_D5 q2) rfl in_Re (by decide) t_513 (Or.inl rfl) rfl d_Re_hindrance_45 ?_
      refine g_iconst (v := -1) hX d_Re_hindrance_48 (by decide) ?_
      refine g_ixor hX d_Re_hindrance_49 ?_
      refine g_iand hX d_Re_hindrance_50 ?_
      refine g_if_eq (tgt := 59) hX d_Re_hindrance_51 (by decide) (fun q10 => ?_) (fun q10 => ?_)
      · have h := h.1 q10
        refine g_iconst (v := 0) hX d_Re_hindrance_59 (by decide) ?_
        exact g_iret hX rfl d_Re_hindrance_60 ⟨_, _, rfl, rfl, h⟩
      · have h := h.2 q10
        refine g_bipush (v := 7) hX d_Re_hindrance_54 (by decide) ?_
        refine g_goto (tgt := 60) hX d_Re_hindrance_56 (by decide) ?_
        exact g_iret hX rfl d_Re_hindrance_60 ⟨_, _, rfl, rfl, h⟩
    · have h := h.2 q7
      refine g_bipush (v := 6) hX d_Re_hindrance_36 (by decide) ?_
      exact g_iret hX rfl d_Re_hindrance_38 ⟨_, _, rfl, rfl, h⟩
  · have h := h.2 q6
    refine g_iload_n hX d_Re_hindrance_16 rfl 0 rfl ?_
    exact g_iret hX rfl d_Re_hindrance_17 ⟨_, _, rfl, rfl, h⟩

def wp_Re_carryOut (Γ : Ev) (n0 : Nat) (σ : St) (post : St → Prop) (thr : String → St → Prop) : Prop := (n0 < Γ.nd ∧ (Γ.K n0 = 5 ∧ (vp_in (St.I (σ) 10 n0) 80 ∧ (vp_in ((St.I (σ) 11 n0) - (1 : Int32)) 4 ∧ (vp_in ((St.I (σ) 11 n0) - (1 : Int32)) 4 ∧ wp_P_dropMortgage Γ (((St.I (σ) 10 n0)).toNatClampNeg) ((St.I (σ) 11 n0)) (σ) (fun σ7 => wp_P_addMortgage Γ (((St.I (σ) 10 n0)).toNatClampNeg) ((St.I (σ7) 12 n0)) ((St.I (σ) (100 + ((St.I (σ) 10 n0)).toNatClampNeg) (((St.I (σ) 11 n0) - (1 : Int32))).toNatClampNeg)) ((St.I (σ) (200 + ((St.I (σ) 10 n0)).toNatClampNeg) (((St.I (σ) 11 n0) - (1 : Int32))).toNatClampNeg)) (σ7) (fun σ9 => post (σ9)) thr) thr)))))
abbrev rm_Re_carryOut : Room := { frames := 2, cells := 0, slots := 0, locals := 84 }
set_option maxRecDepth 100000 in
set_option maxHeartbeats 4000000 in
theorem c_Re_carryOut {l : Launch} {D : va_G} {AC : Nat → ClassId} {lo : Nat} {Γ : Ev} {n0 : Nat} {σ : St} {post : St → Prop} {thr : String → St → Prop} (h : wp_Re_carryOut Γ n0 σ post thr) : Ct l y_Re_carryOut hd_Re_carryOut rm_Re_carryOut D AC lo [.ref (Γ.ad (344 + n0)), .ref (Γ.ad 3)] (wσ AC Γ σ) (pV AC Γ post) (tX AC Γ thr) := by
  refine Ct.of (by decide) (Nat.le_of_ble_eq_true rfl) ?_
  intro p e s m args below meth c hadm hX
  unfold wp_Re_carryOut at h
  obtain ⟨q1, q2, h⟩ := h
  show G p l e rm_Re_carryOut s m args below meth c 5 D lo (pV AC Γ post) (tX AC Γ thr) (wσ AC Γ (σ)) 0 0 0 [(0, .ref (Γ.ad (344 + n0))), (1, .ref (Γ.ad 3))] []
  refine g_aload_n hX d_Re_carryOut_0 rfl 1 rfl ?_
  refine g_aload_n hX d_Re_carryOut_1 rfl 0 rfl ?_
  refine g_getf (i := (344 + n0)) (kf := 4) hX (lt_D q1) rfl (lay_D5 q2) rfl in_Re (by decide) t_510 (Or.inl rfl) rfl d_Re_carryOut_2 ?_
  obtain ⟨q3, h⟩ := h
  refine g_aald (i := 3) 4 hX (lt_c (by decide)) rfl (lay_pa (AC := AC) (Γ := Γ) (σ := σ)) rfl q3 (if_pos (in_lt q3)) d_Re_carryOut_5 ?_
  refine g_astore_n hX d_Re_carryOut_6 rfl (by decide) rfl ?_
  refine g_aload_n hX d_Re_carryOut_7 rfl 0 rfl ?_
  refine g_getf (i := (4 + 4 * ((St.I (σ) 10 n0)).toNatClampNeg)) (kf := 4) hX (lt_P (in_lt q3)) rfl (lay_p (in_lt q3)) rfl in_P (by decide) t_60 (Or.inl rfl) rfl d_Re_carryOut_8 ?_
  refine g_aload_n hX d_Re_carryOut_11 rfl 1 rfl ?_
  refine g_getf (i := (344 + n0)) (kf := 5) hX (lt_D q1) rfl (lay_D5 q2) rfl in_Re (by decide) t_511 (Or.inl rfl) rfl d_Re_carryOut_12 ?_
  refine g_iconst (v := 1) hX d_Re_carryOut_15 (by decide) ?_
  refine g_isub hX d_Re_carryOut_16 ?_
  obtain ⟨q4, h⟩ := h
  refine g_iald (i := (6 + 4 * ((St.I (σ) 10 n0)).toNatClampNeg)) hX (lt_cr (in_lt q3)) rfl (lay_cr (in_lt q3)) q4 d_Re_carryOut_17 ?_
  refine g_istore_n hX d_Re_carryOut_18 rfl (by decide) rfl ?_
  refine g_aload_n hX d_Re_carryOut_19 rfl 1 rfl ?_
  refine g_getf (i := (4 + 4 * ((St.I (σ) 10 n0)).toNatClampNeg)) (kf := 5) hX (lt_P (in_lt q3)) rfl (lay_p (in_lt q3)) rfl in_P (by decide) t_63 (Or.inl rfl) rfl d_Re_carryOut_20 ?_
  refine g_aload_n hX d_Re_carryOut_23 rfl 2 rfl ?_
  refine g_getf (i := (344 + n0)) (kf := 5) hX (lt_D q1) rfl (lay_D5 q2) rfl in_Re (by decide) t_511 (Or.inl rfl) rfl d_Re_carryOut_24 ?_
  refine g_iconst (v := 1) hX d_Re_carryOut_27 (by decide) ?_
  refine g_isub hX d_Re_carryOut_28 ?_
  obtain ⟨q5, h⟩ := h
  refine g_iald (i := (7 + 4 * ((St.I (σ) 10 n0)).toNatClampNeg)) hX (lt_am (in_lt q3)) rfl (lay_am (in_lt q3)) q5 d_Re_carryOut_29 ?_
  refine g_istore hX d_Re_carryOut_30 (by decide) rfl ?_
  refine g_aload_n hX d_Re_carryOut_32 rfl 2 rfl ?_
  refine g_aload_n hX d_Re_carryOut_33 rfl 3 rfl ?_
  refine g_getf (i := (344 + n0)) (kf := 5) hX (lt_D q1) rfl (lay_D5 q2) rfl in_Re (by decide) t_511 (Or.inl rfl) rfl d_Re_carryOut_34 ?_
  refine g_callV (i := (4 + 4 * ((St.I (σ) 10 n0)).toNatClampNeg)) (k := 0) (n := 0) hX (c_P_dropMortgage h) hdT_P_dropMortgage hdO_P_dropMortgage t_2 t_415 t_409 t_410 (lt_P (in_lt q3)) rfl (lay_p (in_lt q3)) rfl ⟨⟨by decide, by decide⟩, np_P_dropMortgage⟩ ⟨Nat.le_of_ble_eq_true rfl, Nat.le_of_ble_eq_true rfl⟩ (Nat.le_of_ble_eq_true rfl) d_Re_carryOut_37 rfl ?_ (fun _ _ z => z)
  rintro _ _ ⟨σ7, rfl, rfl, h⟩
  refine g_aload_n hX d_Re_carryOut_40 rfl 2 rfl ?_
  refine g_aload_n hX d_Re_carryOut_41 rfl 3 rfl ?_
  refine g_getf (i := (344 + n0)) (kf := 6) hX (lt_D q1) rfl (lay_D5 q2) rfl in_Re (by decide) t_512 (Or.inl rfl) rfl d_Re_carryOut_42 ?_
  refine g_iload_n hX d_Re_carryOut_45 rfl 1 rfl ?_
  refine g_iload hX d_Re_carryOut_46 0 rfl ?_
  refine g_callV (i := (4 + 4 * ((St.I (σ) 10 n0)).toNatClampNeg)) (k := 0) (n := 0) hX (c_P_addMortgage h) hdT_P_addMortgage hdO_P_addMortgage t_2 t_416 t_402 t_403 (lt_P (in_lt q3)) rfl (lay_p (in_lt q3)) rfl ⟨⟨by decide, by decide⟩, np_P_addMortgage⟩ ⟨Nat.le_of_ble_eq_true rfl, Nat.le_of_ble_eq_true rfl⟩ (Nat.le_of_ble_eq_true rfl) d_Re_carryOut_48 rfl ?_ (fun _ _ z => z)
  rintro _ _ ⟨σ9, rfl, rfl, h⟩
  exact g_vret hX rfl d_Re_carryOut_51 ⟨_, rfl, rfl, h⟩

def wp_Rl_hindrance (Γ : Ev) (n0 : Nat) (σ : St) (post : Int32 → St → Prop) (thr : String → St → Prop) : Prop := (n0 < Γ.nd ∧ (Γ.K n0 = 6 ∧ (vp_in (St.I (σ) 10 n0) 80 ∧ ((¬ (St.I (σ) 1 (((St.I (σ) 10 n0)).toNatClampNeg)) = 0 → (((St.I (σ) 11 n0) ≤ (St.I (σ) 2 (((St.I (σ) 10 n0)).toNatClampNeg)) → post (0 : Int32) (σ)) ∧ (¬ (St.I (σ) 11 n0) ≤ (St.I (σ) 2 (((St.I (σ) 10 n0)).toNatClampNeg)) → post (6 : Int32) (σ)))) ∧ ((St.I (σ) 1 (((St.I (σ) 10 n0)).toNatClampNeg)) = 0 → post (1 : Int32) (σ))))))
abbrev rm_Rl_hindrance : Room := { frames := 0, cells := 0, slots := 0, locals := 0 }
set_option maxRecDepth 100000 in
set_option maxHeartbeats 4000000 in
theorem c_Rl_hindrance {l : Launch} {D : va_G} {AC : Nat → ClassId} {lo : Nat} {Γ : Ev} {n0 : Nat} {σ : St} {post : Int32 → St → Prop} {thr : String → St → Prop} (h : wp_Rl_hindrance Γ n0 σ post thr) : Ct l y_Rl_hindrance hd_Rl_hindrance rm_Rl_hindrance D AC lo [.ref (Γ.ad (344 + n0)), .ref (Γ.ad 3)] (wσ AC Γ σ) (pI AC Γ post) (tX AC Γ thr) := by
  refine Ct.of (by decide) (Nat.le_of_ble_eq_true rfl) ?_
  intro p e s m args below meth c hadm hX
  unfold wp_Rl_hindrance at h
  obtain ⟨q1, q2, h⟩ := h
  show G p l e rm_Rl_hindrance s m args below meth c 3 D lo (pI AC Γ post) (tX AC Γ thr) (wσ AC Γ (σ)) 0 0 0 [(0, .ref (Γ.ad (344 + n0))), (1, .ref (Γ.ad 3))] []
  refine g_aload_n hX d_Rl_hindrance_0 rfl 1 rfl ?_
  refine g_aload_n hX d_Rl_hindrance_1 rfl 0 rfl ?_
  refine g_getf (i := (344 + n0)) (kf := 4) hX (lt_D q1) rfl (lay_D6 q2) rfl in_Rl (by decide) t_540 (Or.inl rfl) rfl d_Rl_hindrance_2 ?_
  obtain ⟨q3, h⟩ := h
  refine g_aald (i := 3) 4 hX (lt_c (by decide)) rfl (lay_pa (AC := AC) (Γ := Γ) (σ := σ)) rfl q3 (if_pos (in_lt q3)) d_Rl_hindrance_5 ?_
  refine g_astore_n hX d_Rl_hindrance_6 rfl (by decide) rfl ?_
  refine g_aload_n hX d_Rl_hindrance_7 rfl 0 rfl ?_
  refine g_getf (i := (4 + 4 * ((St.I (σ) 10 n0)).toNatClampNeg)) (kf := 0) hX (lt_P (in_lt q3)) rfl (lay_p (in_lt q3)) rfl in_P (by decide) t_43 (Or.inl rfl) rfl d_Rl_hindrance_8 ?_
  refine g_if_ne (tgt := 16) hX d_Rl_hindrance_11 (by decide) (fun q4 => ?_) (fun q4 => ?_)
  · have h := h.1 q4
    refine g_aload_n hX d_Rl_hindrance_16 rfl 1 rfl ?_
    refine g_getf (i := (344 + n0)) (kf := 5) hX (lt_D q1) rfl (lay_D6 q2) rfl in_Rl (by decide) t_541 (Or.inl rfl) rfl d_Rl_hindrance_17 ?_
    refine g_aload_n hX d_Rl_hindrance_20 rfl 0 rfl ?_
    refine g_getf (i := (4 + 4 * ((St.I (σ) 10 n0)).toNatClampNeg)) (kf := 3) hX (lt_P (in_lt q3)) rfl (lay_p (in_lt q3)) rfl in_P (by decide) t_55 (Or.inl rfl) rfl d_Rl_hindrance_21 ?_
    refine g_icmp_le (tgt := 32) hX d_Rl_hindrance_24 (by decide) (fun q5 => ?_) (fun q5 => ?_)
    · have h := h.1 q5
      refine g_iconst (v := 0) hX d_Rl_hindrance_32 (by decide) ?_
      exact g_iret hX rfl d_Rl_hindrance_33 ⟨_, _, rfl, rfl, h⟩
    · have h := h.2 q5
      refine g_bipush (v := 6) hX d_Rl_hindrance_27 (by decide) ?_
      refine g_goto (tgt := 33) hX d_Rl_hindrance_29 (by decide) ?_
      exact g_iret hX rfl d_Rl_hindrance_33 ⟨_, _, rfl, rfl, h⟩
  · have h := h.2 q4
    refine g_iconst (v := 1) hX d_Rl_hindrance_14 (by decide) ?_
    exact g_iret hX rfl d_Rl_hindrance_15 ⟨_, _, rfl, rfl, h⟩

def wp_Rl_carryOut (Γ : Ev) (n0 : Nat) (σ : St) (post : St → Prop) (thr : String → St → Prop) : Prop := (n0 < Γ.nd ∧ (Γ.K n0 = 6 ∧ (vp_in (St.I (σ) 10 n0) 80 ∧ wp_P_dropMortgage Γ (((St.I (σ) 10 n0)).toNatClampNeg) ((St.I (σ) 11 n0)) (σ) (fun σ5 => post (σ5)) thr)))
abbrev rm_Rl_carryOut : Room := { frames := 2, cells := 0, slots := 0, locals := 82 }
set_option maxRecDepth 100000 in
set_option maxHeartbeats 4000000 in
theorem c_Rl_carryOut {l : Launch} {D : va_G} {AC : Nat → ClassId} {lo : Nat} {Γ : Ev} {n0 : Nat} {σ : St} {post : St → Prop} {thr : String → St → Prop} (h : wp_Rl_carryOut Γ n0 σ post thr) : Ct l y_Rl_carryOut hd_Rl_carryOut rm_Rl_carryOut D AC lo [.ref (Γ.ad (344 + n0)), .ref (Γ.ad 3)] (wσ AC Γ σ) (pV AC Γ post) (tX AC Γ thr) := by
  refine Ct.of (by decide) (Nat.le_of_ble_eq_true rfl) ?_
  intro p e s m args below meth c hadm hX
  unfold wp_Rl_carryOut at h
  obtain ⟨q1, q2, h⟩ := h
  show G p l e rm_Rl_carryOut s m args below meth c 2 D lo (pV AC Γ post) (tX AC Γ thr) (wσ AC Γ (σ)) 0 0 0 [(0, .ref (Γ.ad (344 + n0))), (1, .ref (Γ.ad 3))] []
  refine g_aload_n hX d_Rl_carryOut_0 rfl 1 rfl ?_
  refine g_aload_n hX d_Rl_carryOut_1 rfl 0 rfl ?_
  refine g_getf (i := (344 + n0)) (kf := 4) hX (lt_D q1) rfl (lay_D6 q2) rfl in_Rl (by decide) t_540 (Or.inl rfl) rfl d_Rl_carryOut_2 ?_
  obtain ⟨q3, h⟩ := h
  refine g_aald (i := 3) 4 hX (lt_c (by decide)) rfl (lay_pa (AC := AC) (Γ := Γ) (σ := σ)) rfl q3 (if_pos (in_lt q3)) d_Rl_carryOut_5 ?_
  refine g_aload_n hX d_Rl_carryOut_6 rfl 0 rfl ?_
  refine g_getf (i := (344 + n0)) (kf := 5) hX (lt_D q1) rfl (lay_D6 q2) rfl in_Rl (by decide) t_541 (Or.inl rfl) rfl d_Rl_carryOut_7 ?_
  refine g_callV (i := (4 + 4 * ((St.I (σ) 10 n0)).toNatClampNeg)) (k := 0) (n := 0) hX (c_P_dropMortgage h) hdT_P_dropMortgage hdO_P_dropMortgage t_2 t_408 t_409 t_410 (lt_P (in_lt q3)) rfl (lay_p (in_lt q3)) rfl ⟨⟨by decide, by decide⟩, np_P_dropMortgage⟩ ⟨Nat.le_of_ble_eq_true rfl, Nat.le_of_ble_eq_true rfl⟩ (Nat.le_of_ble_eq_true rfl) d_Rl_carryOut_10 rfl ?_ (fun _ _ z => z)
  rintro _ _ ⟨σ5, rfl, rfl, h⟩
  exact g_vret hX rfl d_Rl_carryOut_13 ⟨_, rfl, rfl, h⟩

def wp_Ca_hindrance (Γ : Ev) (n0 : Nat) (σ : St) (post : Int32 → St → Prop) (thr : String → St → Prop) : Prop := (n0 < Γ.nd ∧ (Γ.K n0 = 7 ∧ (vp_in (St.I (σ) 10 n0) 80 ∧ ((¬ (St.I (σ) 1 (((St.I (σ) 10 n0)).toNatClampNeg)) = 0 → wp_P_hasCautionOf Γ (((St.I (σ) 10 n0)).toNatClampNeg) ((St.I (σ) 11 n0)) (σ) (fun v5 σ6 => ((v5 = 0 → post (0 : Int32) (σ6)) ∧ (¬ v5 = 0 → post (8 : Int32) (σ6)))) thr) ∧ ((St.I (σ) 1 (((St.I (σ) 10 n0)).toNatClampNeg)) = 0 → post (1 : Int32) (σ))))))
abbrev rm_Ca_hindrance : Room := { frames := 1, cells := 0, slots := 0, locals := 21 }
set_option maxRecDepth 100000 in
set_option maxHeartbeats 4000000 in
theorem c_Ca_hindrance {l : Launch} {D : va_G} {AC : Nat → ClassId} {lo : Nat} {Γ : Ev} {n0 : Nat} {σ : St} {post : Int32 → St → Prop} {thr : String → St → Prop} (h : wp_Ca_hindrance Γ n0 σ post thr) : Ct l y_Ca_hindrance hd_Ca_hindrance rm_Ca_hindrance D AC lo [.ref (Γ.ad (344 + n0)), .ref (Γ.ad 3)] (wσ AC Γ σ) (pI AC Γ post) (tX AC Γ thr) := by
  refine Ct.of (by decide) (Nat.le_of_ble_eq_true rfl) ?_
  intro p e s m args below meth c hadm hX
  unfold wp_Ca_hindrance at h
  obtain ⟨q1, q2, h⟩ := h
  show G p l e rm_Ca_hindrance s m args below meth c 3 D lo (pI AC Γ post) (tX AC Γ thr) (wσ AC Γ (σ)) 0 0 0 [(0, .ref (Γ.ad (344 + n0))), (1, .ref (Γ.ad 3))] []
  refine g_aload_n hX d_Ca_hindrance_0 rfl 1 rfl ?_
  refine g_aload_n hX d_Ca_hindrance_1 rfl 0 rfl ?_
  refine g_getf (i := (344 + n0)) (kf := 4) hX (lt_D q1) rfl (lay_D7 q2) rfl in_Ca (by decide) t_564 (Or.inl rfl) rfl d_Ca_hindrance_2 ?_
  obtain ⟨q3, h⟩ := h
  refine g_aald (i := 3) 4 hX (lt_c (by decide)) rfl (lay_pa (AC := AC) (Γ := Γ) (σ := σ)) rfl q3 (if_pos (in_lt q3)) d_Ca_hindrance_5 ?_
  refine g_astore_n hX d_Ca_hindrance_6 rfl (by decide) rfl ?_
  refine g_aload_n hX d_Ca_hindrance_7 rfl 0 rfl ?_
  refine g_getf (i := (4 + 4 * ((St.I (σ) 10 n0)).toNatClampNeg)) (kf := 0) hX (lt_P (in_lt q3)) rfl (lay_p (in_lt q3)) rfl in_P (by decide) t_41 (Or.inl rfl) rfl d_Ca_hindrance_8 ?_
  refine g_if_ne (tgt := 16) hX d_Ca_hindrance_11 (by decide) (fun q4 => ?_) (fun q4 => ?_)
  · have h := h.1 q4
    refine g_aload_n hX d_Ca_hindrance_16 rfl 0 rfl ?_
    refine g_aload_n hX d_Ca_hindrance_17 rfl 1 rfl ?_
    refine g_getf (i := (344 + n0)) (kf := 5) hX (lt_D q1) rfl (lay_D7 q2) rfl in_Ca (by decide) t_565 (Or.inl rfl) rfl d_Ca_hindrance_18 ?_
    refine g_callV (i := (4 + 4 * ((St.I (σ) 10 n0)).toNatClampNeg)) (k := 0) (n := 0) hX (c_P_hasCautionOf h) hdT_P_hasCautionOf hdO_P_hasCautionOf t_2 t_281 t_282 t_283 (lt_P (in_lt q3)) rfl (lay_p (in_lt q3)) rfl ⟨⟨by decide, by decide⟩, np_P_hasCautionOf⟩ ⟨Nat.le_of_ble_eq_true rfl, Nat.le_of_ble_eq_true rfl⟩ (Nat.le_of_ble_eq_true rfl) d_Ca_hindrance_21 rfl ?_ (fun _ _ z => z)
    rintro _ _ ⟨v5, σ6, rfl, rfl, h⟩
    refine g_if_eq (tgt := 32) hX d_Ca_hindrance_24 (by decide) (fun q7 => ?_) (fun q7 => ?_)
    · have h := h.1 q7
      refine g_iconst (v := 0) hX d_Ca_hindrance_32 (by decide) ?_
      exact g_iret hX rfl d_Ca_hindrance_33 ⟨_, _, rfl, rfl, h⟩
    · have h := h.2 q7
      refine g_bipush (v := 8) hX d_Ca_hindrance_27 (by decide) ?_
      refine g_goto (tgt := 33) hX d_Ca_hindrance_29 (by decide) ?_
      exact g_iret hX rfl d_Ca_hindrance_33 ⟨_, _, rfl, rfl, h⟩
  · have h := h.2 q4
    refine g_iconst (v := 1) hX d_Ca_hindrance_14 (by decide) ?_
    exact g_iret hX rfl d_Ca_hindrance_15 ⟨_, _, rfl, rfl, h⟩

def wp_Ca_carryOut (Γ : Ev) (n0 : Nat) (σ : St) (post : St → Prop) (thr : String → St → Prop) : Prop := (n0 < Γ.nd ∧ (Γ.K n0 = 7 ∧ (vp_in (St.I (σ) 10 n0) 80 ∧ post (St.sI (σ) 3 (((St.I (σ) 10 n0)).toNatClampNeg) ((St.I (σ) 3 (((St.I (σ) 10 n0)).toNatClampNeg)) ||| ((1 : Int32) <<< ((St.I (σ) 11 n0) &&& 31)))))))
abbrev rm_Ca_carryOut : Room := { frames := 0, cells := 0, slots := 0, locals := 0 }
set_option maxRecDepth 100000 in
set_option maxHeartbeats 4000000 in
theorem c_Ca_carryOut {l : Launch} {D : va_G} {AC : Nat → ClassId} {lo : Nat} {Γ : Ev} {n0 : Nat} {σ : St} {post : St → Prop} {thr : String → St → Prop} (h : wp_Ca_carryOut Γ n0 σ post thr) : Ct l y_Ca_carryOut hd_Ca_carryOut rm_Ca_carryOut D AC lo [.ref (Γ.ad (344 + n0)), .ref (Γ.ad 3)] (wσ AC Γ σ) (pV AC Γ post) (tX AC Γ thr) := by
  refine Ct.of (by decide) (Nat.le_of_ble_eq_true rfl) ?_
  intro p e s m args below meth c hadm hX
  unfold wp_Ca_carryOut at h
  obtain ⟨q1, q2, h⟩ := h
  show G p l e rm_Ca_carryOut s m args below meth c 2 D lo (pV AC Γ post) (tX AC Γ thr) (wσ AC Γ (σ)) 0 0 0 [(0, .ref (Γ.ad (344 + n0))), (1, .ref (Γ.ad 3))] []
  refine g_aload_n hX d_Ca_carryOut_0 rfl 1 rfl ?_
  refine g_aload_n hX d_Ca_carryOut_1 rfl 0 rfl ?_
  refine g_getf (i := (344 + n0)) (kf := 4) hX (lt_D q1) rfl (lay_D7 q2) rfl in_Ca (by decide) t_564 (Or.inl rfl) rfl d_Ca_carryOut_2 ?_
  obtain ⟨q3, h⟩ := h
  refine g_aald (i := 3) 4 hX (lt_c (by decide)) rfl (lay_pa (AC := AC) (Γ := Γ) (σ := σ)) rfl q3 (if_pos (in_lt q3)) d_Ca_carryOut_5 ?_
  refine g_dup hX d_Ca_carryOut_6 rfl ?_
  refine g_getf (i := (4 + 4 * ((St.I (σ) 10 n0)).toNatClampNeg)) (kf := 6) hX (lt_P (in_lt q3)) rfl (lay_p (in_lt q3)) rfl in_P (by decide) t_66 (Or.inl rfl) rfl d_Ca_carryOut_7 ?_
  refine g_iconst (v := 1) hX d_Ca_carryOut_10 (by decide) ?_
  refine g_aload_n hX d_Ca_carryOut_11 rfl 0 rfl ?_
  refine g_getf (i := (344 + n0)) (kf := 5) hX (lt_D q1) rfl (lay_D7 q2) rfl in_Ca (by decide) t_565 (Or.inl rfl) rfl d_Ca_carryOut_12 ?_
  refine g_ishl hX d_Ca_carryOut_15 ?_
  refine g_ior hX d_Ca_carryOut_16 ?_
  refine g_putf (i := (4 + 4 * ((St.I (σ) 10 n0)).toNatClampNeg)) (kf := 6) (ty := .int) hX (lt_P (in_lt q3)) rfl (lay_p (in_lt q3)) rfl in_P ty_P nm_P (by decide) t_66 (Or.inl rfl) rfl (by decide +kernel) rfl rfl (by show _ < List.length _; simp) d_Ca_carryOut_17 (wσ_caut (in_lt q3) _) ?_
  exact g_vret hX rfl d_Ca_carryOut_20 ⟨_, rfl, rfl, h⟩

def wp_Li_hindrance (Γ : Ev) (n0 : Nat) (σ : St) (post : Int32 → St → Prop) (thr : String → St → Prop) : Prop := (n0 < Γ.nd ∧ (Γ.K n0 = 8 ∧ (vp_in (St.I (σ) 10 n0) 80 ∧ ((¬ (St.I (σ) 1 (((St.I (σ) 10 n0)).toNatClampNeg)) = 0 → wp_P_hasCautionOf Γ (((St.I (σ) 10 n0)).toNatClampNeg) ((St.I (σ) 11 n0)) (σ) (fun v5 σ6 => ((v5 = 0 → post (8 : Int32) (σ6)) ∧ (¬ v5 = 0 → post (0 : Int32) (σ6)))) thr) ∧ ((St.I (σ) 1 (((St.I (σ) 10 n0)).toNatClampNeg)) = 0 → post (1 : Int32) (σ))))))
abbrev rm_Li_hindrance : Room := { frames := 1, cells := 0, slots := 0, locals := 21 }
set_option maxRecDepth 100000 in
set_option maxHeartbeats 4000000 in
theorem c_Li_hindrance {l : Launch} {D : va_G} {AC : Nat → ClassId} {lo : Nat} {Γ : Ev} {n0 : Nat} {σ : St} {post : Int32 → St → Prop} {thr : String → St → Prop} (h : wp_Li_hindrance Γ n0 σ post thr) : Ct l y_Li_hindrance hd_Li_hindrance rm_Li_hindrance D AC lo [.ref (Γ.ad (344 + n0)), .ref (Γ.ad 3)] (wσ AC Γ σ) (pI AC Γ post) (tX AC Γ thr) := by
  refine Ct.of (by decide) (Nat.le_of_ble_eq_true rfl) ?_
  intro p e s m args below meth c hadm hX
  unfold wp_Li_hindrance at h
  obtain ⟨q1, q2, h⟩ := h
  show G p l e rm_Li_hindrance s m args below meth c 3 D lo (pI AC Γ post) (tX AC Γ thr) (wσ AC Γ (σ)) 0 0 0 [(0, .ref (Γ.ad (344 + n0))), (1, .ref (Γ.ad 3))] []
  refine g_aload_n hX d_Li_hindrance_0 rfl 1 rfl ?_
  refine g_aload_n hX d_Li_hindrance_1 rfl 0 rfl ?_
  refine g_getf (i := (344 + n0)) (kf := 4) hX (lt_D q1) rfl (lay_D8 q2) rfl in_Li (by decide) t_588 (Or.inl rfl) rfl d_Li_hindrance_2 ?_
  obtain ⟨q3, h⟩ := h
  refine g_aald (i := 3) 4 hX (lt_c (by decide)) rfl (lay_pa (AC := AC) (Γ := Γ) (σ := σ)) rfl q3 (if_pos (in_lt q3)) d_Li_hindrance_5 ?_
  refine g_astore_n hX d_Li_hindrance_6 rfl (by decide) rfl ?_
  refine g_aload_n hX d_Li_hindrance_7 rfl 0 rfl ?_
  refine g_getf (i := (4 + 4 * ((St.I (σ) 10 n0)).toNatClampNeg)) (kf := 0) hX (lt_P (in_lt q3)) rfl (lay_p (in_lt q3)) rfl in_P (by decide) t_42 (Or.inl rfl) rfl d_Li_hindrance_8 ?_
  refine g_if_ne (tgt := 16) hX d_Li_hindrance_11 (by decide) (fun q4 => ?_) (fun q4 => ?_)
  · have h := h.1 q4
    refine g_aload_n hX d_Li_hindrance_16 rfl 0 rfl ?_
    refine g_aload_n hX d_Li_hindrance_17 rfl 1 rfl ?_
    refine g_getf (i := (344 + n0)) (kf := 5) hX (lt_D q1) rfl (lay_D8 q2) rfl in_Li (by decide) t_589 (Or.inl rfl) rfl d_Li_hindrance_18 ?_
    refine g_callV (i := (4 + 4 * ((St.I (σ) 10 n0)).toNatClampNeg)) (k := 0) (n := 0) hX (c_P_hasCautionOf h) hdT_P_hasCautionOf hdO_P_hasCautionOf t_2 t_291 t_282 t_283 (lt_P (in_lt q3)) rfl (lay_p (in_lt q3)) rfl ⟨⟨by decide, by decide⟩, np_P_hasCautionOf⟩ ⟨Nat.le_of_ble_eq_true rfl, Nat.le_of_ble_eq_true rfl⟩ (Nat.le_of_ble_eq_true rfl) d_Li_hindrance_21 rfl ?_ (fun _ _ z => z)
    rintro _ _ ⟨v5, σ6, rfl, rfl, h⟩
    refine g_if_eq (tgt := 31) hX d_Li_hindrance_24 (by decide) (fun q7 => ?_) (fun q7 => ?_)
    · have h := h.1 q7
      refine g_bipush (v := 8) hX d_Li_hindrance_31 (by decide) ?_
      exact g_iret hX rfl d_Li_hindrance_33 ⟨_, _, rfl, rfl, h⟩
    · have h := h.2 q7
      refine g_iconst (v := 0) hX d_Li_hindrance_27 (by decide) ?_
      refine g_goto (tgt := 33) hX d_Li_hindrance_28 (by decide) ?_
      exact g_iret hX rfl d_Li_hindrance_33 ⟨_, _, rfl, rfl, h⟩
  · have h := h.2 q4
    refine g_iconst (v := 1) hX d_Li_hindrance_14 (by decide) ?_
    exact g_iret hX rfl d_Li_hindrance_15 ⟨_, _, rfl, rfl, h⟩

def wp_Li_carryOut (Γ : Ev) (n0 : Nat) (σ : St) (post : St → Prop) (thr : String → St → Prop) : Prop := (n0 < Γ.nd ∧ (Γ.K n0 = 8 ∧ (vp_in (St.I (σ) 10 n0) 80 ∧ post (St.sI (σ) 3 (((St.I (σ) 10 n0)).toNatClampNeg) ((St.I (σ) 3 (((St.I (σ) 10 n0)).toNatClampNeg)) &&& (((1 : Int32) <<< ((St.I (σ) 11 n0) &&& 31)) ^^^ (-1 : Int32)))))))
abbrev rm_Li_carryOut : Room := { frames := 0, cells := 0, slots := 0, locals := 0 }
set_option maxRecDepth 100000 in
set_option maxHeartbeats 4000000 in
theorem c_Li_carryOut {l : Launch} {D : va_G} {AC : Nat → ClassId} {lo : Nat} {Γ : Ev} {n0 : Nat} {σ : St} {post : St → Prop} {thr : String → St → Prop} (h : wp_Li_carryOut Γ n0 σ post thr) : Ct l y_Li_carryOut hd_Li_carryOut rm_Li_carryOut D AC lo [.ref (Γ.ad (344 + n0)), .ref (Γ.ad 3)] (wσ AC Γ σ) (pV AC Γ post) (tX AC Γ thr) := by
  refine Ct.of (by decide) (Nat.le_of_ble_eq_true rfl) ?_
  intro p e s m args below meth c hadm hX
  unfold wp_Li_carryOut at h
  obtain ⟨q1, q2, h⟩ := h
  show G p l e rm_Li_carryOut s m args below meth c 2 D lo (pV AC Γ post) (tX AC Γ thr) (wσ AC Γ (σ)) 0 0 0 [(0, .ref (Γ.ad (344 + n0))), (1, .ref (Γ.ad 3))] []
  refine g_aload_n hX d_Li_carryOut_0 rfl 1 rfl ?_
  refine g_aload_n hX d_Li_carryOut_1 rfl 0 rfl ?_
  refine g_getf (i := (344 + n0)) (kf := 4) hX (lt_D q1) rfl (lay_D8 q2) rfl in_Li (by decide) t_588 (Or.inl rfl) rfl d_Li_carryOut_2 ?_
  obtain ⟨q3, h⟩ := h
  refine g_aald (i := 3) 4 hX (lt_c (by decide)) rfl (lay_pa (AC := AC) (Γ := Γ) (σ := σ)) rfl q3 (if_pos (in_lt q3)) d_Li_carryOut_5 ?_
  refine g_dup hX d_Li_carryOut_6 rfl ?_
  refine g_getf (i := (4 + 4 * ((St.I (σ) 10 n0)).toNatClampNeg)) (kf := 6) hX (lt_P (in_lt q3)) rfl (lay_p (in_lt q3)) rfl in_P (by decide) t_67 (Or.inl rfl) rfl d_Li_carryOut_7 ?_
  refine g_iconst (v := 1) hX d_Li_carryOut_10 (by decide) ?_
  refine g_aload_n hX d_Li_carryOut_11 rfl 0 rfl ?_
  refine g_getf (i := (344 + n0)) (kf := 5) hX (lt_D q1) rfl (lay_D8 q2) rfl in_Li (by decide) t_589 (Or.inl rfl) rfl d_Li_carryOut_12 ?_
  refine g_ishl hX d_Li_carryOut_15 ?_
  refine g_iconst (v := -1) hX d_Li_carryOut_16 (by decide) ?_
  refine g_ixor hX d_Li_carryOut_17 ?_
  refine g_iand hX d_Li_carryOut_18 ?_
  refine g_putf (i := (4 + 4 * ((St.I (σ) 10 n0)).toNatClampNeg)) (kf := 6) (ty := .int) hX (lt_P (in_lt q3)) rfl (lay_p (in_lt q3)) rfl in_P ty_P nm_P (by decide) t_67 (Or.inl rfl) rfl (by decide +kernel) rfl rfl (by show _ < List.length _; simp) d_Li_carryOut_19 (wσ_caut (in_lt q3) _) ?_
  exact g_vret hX rfl d_Li_carryOut_22 ⟨_, rfl, rfl, h⟩

def wp_Sp_hindrance (Γ : Ev) (n0 : Nat) (σ : St) (post : Int32 → St → Prop) (thr : String → St → Prop) : Prop := (n0 < Γ.nd ∧ (Γ.K n0 = 9 ∧ (vp_in (St.I (σ) 10 n0) 80 ∧ wp_P_closedness Γ (((St.I (σ) 10 n0)).toNatClampNeg) (σ) (fun v4 σ5 => ((v4 = 0 → (((lg_cmp (Int32.toInt64 (St.I (σ5) 11 n0)) (St.L (σ5) 1 (((St.I (σ) 10 n0)).toNatClampNeg))) < 0 → post (0 : Int32) (σ5)) ∧ (¬ (lg_cmp (Int32.toInt64 (St.I (σ5) 11 n0)) (St.L (σ5) 1 (((St.I (σ) 10 n0)).toNatClampNeg))) < 0 → post (9 : Int32) (σ5)))) ∧ (¬ v4 = 0 → post v4 (σ5)))) thr)))
abbrev rm_Sp_hindrance : Room := { frames := 1, cells := 0, slots := 0, locals := 20 }
set_option maxRecDepth 100000 in
set_option maxHeartbeats 4000000 in
theorem c_Sp_hindrance {l : Launch} {D : va_G} {AC : Nat → ClassId} {lo : Nat} {Γ : Ev} {n0 : Nat} {σ : St} {post : Int32 → St → Prop} {thr : String → St → Prop} (h : wp_Sp_hindrance Γ n0 σ post thr) : Ct l y_Sp_hindrance hd_Sp_hindrance rm_Sp_hindrance D AC lo [.ref (Γ.ad (344 + n0)), .ref (Γ.ad 3)] (wσ AC Γ σ) (pI AC Γ post) (tX AC Γ thr) := by
  refine Ct.of (by decide) (Nat.le_of_ble_eq_true rfl) ?_
  intro p e s m args below meth c hadm hX
  unfold wp_Sp_hindrance at h
  obtain ⟨q1, q2, h⟩ := h
  show G p l e rm_Sp_hindrance s m args below meth c 4 D lo (pI AC Γ post) (tX AC Γ thr) (wσ AC Γ (σ)) 0 0 0 [(0, .ref (Γ.ad (344 + n0))), (1, .ref (Γ.ad 3))] []
  refine g_aload_n hX d_Sp_hindrance_0 rfl 1 rfl ?_
  refine g_aload_n hX d_Sp_hindrance_1 rfl 0 rfl ?_
  refine g_getf (i := (344 + n0)) (kf := 4) hX (lt_D q1) rfl (lay_D9 q2) rfl in_Sp (by decide) t_612 (Or.inl rfl) rfl d_Sp_hindrance_2 ?_
  obtain ⟨q3, h⟩ := h
  refine g_aald (i := 3) 4 hX (lt_c (by decide)) rfl (lay_pa (AC := AC) (Γ := Γ) (σ := σ)) rfl q3 (if_pos (in_lt q3)) d_Sp_hindrance_5 ?_
  refine g_astore_n hX d_Sp_hindrance_6 rfl (by decide) rfl ?_
  refine g_aload_n hX d_Sp_hindrance_7 rfl 0 rfl ?_
  refine g_callV (i := (4 + 4 * ((St.I (σ) 10 n0)).toNatClampNeg)) (k := 0) (n := 0) hX (c_P_closedness h) hdT_P_closedness hdO_P_closedness t_2 t_367 t_307 t_308 (lt_P (in_lt q3)) rfl (lay_p (in_lt q3)) rfl ⟨⟨by decide, by decide⟩, np_P_closedness⟩ ⟨Nat.le_of_ble_eq_true rfl, Nat.le_of_ble_eq_true rfl⟩ (Nat.le_of_ble_eq_true rfl) d_Sp_hindrance_8 rfl ?_ (fun _ _ z => z)
  rintro _ _ ⟨v4, σ5, rfl, rfl, h⟩
  refine g_istore_n hX d_Sp_hindrance_11 rfl (by decide) rfl ?_
  refine g_iload_n hX d_Sp_hindrance_12 rfl 0 rfl ?_
  refine g_if_eq (tgt := 18) hX d_Sp_hindrance_13 (by decide) (fun q6 => ?_) (fun q6 => ?_)
  · have h := h.1 q6
    refine g_aload_n hX d_Sp_hindrance_18 rfl 2 rfl ?_
    refine g_getf (i := (344 + n0)) (kf := 5) hX (lt_D q1) rfl (lay_D9 q2) rfl in_Sp (by decide) t_613 (Or.inl rfl) rfl d_Sp_hindrance_19 ?_
    refine g_i2l hX d_Sp_hindrance_22 ?_
    refine g_aload_n hX d_Sp_hindrance_23 rfl 1 rfl ?_
    refine g_getf (i := (4 + 4 * ((St.I (σ) 10 n0)).toNatClampNeg)) (kf := 1) hX (lt_P (in_lt q3)) rfl (lay_p (in_lt q3)) rfl in_P (by decide) t_47 (Or.inl rfl) rfl d_Sp_hindrance_24 ?_
    refine g_lcmp hX d_Sp_hindrance_27 ?_
    refine g_if_lt (tgt := 36) hX d_Sp_hindrance_28 (by decide) (fun q7 => ?_) (fun q7 => ?_)
    · have h := h.1 q7
      refine g_iconst (v := 0) hX d_Sp_hindrance_36 (by decide) ?_
      exact g_iret hX rfl d_Sp_hindrance_37 ⟨_, _, rfl, rfl, h⟩
    · have h := h.2 q7
      refine g_bipush (v := 9) hX d_Sp_hindrance_31 (by decide) ?_
      refine g_goto (tgt := 37) hX d_Sp_hindrance_33 (by decide) ?_
      exact g_iret hX rfl d_Sp_hindrance_37 ⟨_, _, rfl, rfl, h⟩
  · have h := h.2 q6
    refine g_iload_n hX d_Sp_hindrance_16 rfl 0 rfl ?_
    exact g_iret hX rfl d_Sp_hindrance_17 ⟨_, _, rfl, rfl, h⟩

def wp_Sp_carryOut (Γ : Ev) (n0 : Nat) (σ : St) (post : St → Prop) (thr : String → St → Prop) : Prop := (n0 < Γ.nd ∧ (Γ.K n0 = 9 ∧ (vp_in (St.I (σ) 10 n0) 80 ∧ (vp_in ((2 : Int32) * (St.I (σ) 6 n0)) 80 ∧ (vp_in (((2 : Int32) * (St.I (σ) 6 n0)) + (1 : Int32)) 80 ∧ wp_P_makeFrom Γ ((((2 : Int32) * (St.I (σ) 6 n0))).toNatClampNeg) (((St.I (σ) 10 n0)).toNatClampNeg) ((Int32.toInt64 (St.I (St.sI (σ) 1 (((St.I (σ) 10 n0)).toNatClampNeg) (0 : Int32)) 11 n0))) (St.sI (σ) 1 (((St.I (σ) 10 n0)).toNatClampNeg) (0 : Int32)) (fun σ7 => wp_P_makeFrom Γ (((((2 : Int32) * (St.I (σ) 6 n0)) + (1 : Int32))).toNatClampNeg) (((St.I (σ) 10 n0)).toNatClampNeg) (((St.L (St.sI (σ7) 4 ((((2 : Int32) * (St.I (σ) 6 n0))).toNatClampNeg) (St.I (σ7) 10 n0)) 1 (((St.I (σ) 10 n0)).toNatClampNeg)) - (Int32.toInt64 (St.I (St.sI (σ7) 4 ((((2 : Int32) * (St.I (σ) 6 n0))).toNatClampNeg) (St.I (σ7) 10 n0)) 11 n0)))) (St.sI (σ7) 4 ((((2 : Int32) * (St.I (σ) 6 n0))).toNatClampNeg) (St.I (σ7) 10 n0)) (fun σ9 => post (St.sI (σ9) 4 (((((2 : Int32) * (St.I (σ) 6 n0)) + (1 : Int32))).toNatClampNeg) (St.I (σ9) 10 n0))) thr) thr)))))
abbrev rm_Sp_carryOut : Room := { frames := 2, cells := 0, slots := 0, locals := 83 }
set_option maxRecDepth 100000 in
set_option maxHeartbeats 4000000 in
theorem c_Sp_carryOut {l : Launch} {D : va_G} {AC : Nat → ClassId} {lo : Nat} {Γ : Ev} {n0 : Nat} {σ : St} {post : St → Prop} {thr : String → St → Prop} (h : wp_Sp_carryOut Γ n0 σ post thr) : Ct l y_Sp_carryOut hd_Sp_carryOut rm_Sp_carryOut D AC lo [.ref (Γ.ad (344 + n0)), .ref (Γ.ad 3)] (wσ AC Γ σ) (pV AC Γ post) (tX AC Γ thr) := by
  refine Ct.of (by decide) (Nat.le_of_ble_eq_true rfl) ?_
  intro p e s m args below meth c hadm hX
  unfold wp_Sp_carryOut at h
  obtain ⟨q1, q2, h⟩ := h
  show G p l e rm_Sp_carryOut s m args below meth c 5 D lo (pV AC Γ post) (tX AC Γ thr) (wσ AC Γ (σ)) 0 0 0 [(0, .ref (Γ.ad (344 + n0))), (1, .ref (Γ.ad 3))] []
  refine g_aload_n hX d_Sp_carryOut_0 rfl 1 rfl ?_
  refine g_aload_n hX d_Sp_carryOut_1 rfl 0 rfl ?_
  refine g_getf (i := (344 + n0)) (kf := 4) hX (lt_D q1) rfl (lay_D9 q2) rfl in_Sp (by decide) t_612 (Or.inl rfl) rfl d_Sp_carryOut_2 ?_
  obtain ⟨q3, h⟩ := h
  refine g_aald (i := 3) 4 hX (lt_c (by decide)) rfl (lay_pa (AC := AC) (Γ := Γ) (σ := σ)) rfl q3 (if_pos (in_lt q3)) d_Sp_carryOut_5 ?_
  refine g_astore_n hX d_Sp_carryOut_6 rfl (by decide) rfl ?_
  refine g_aload_n hX d_Sp_carryOut_7 rfl 2 rfl ?_
  refine g_iconst (v := 2) hX d_Sp_carryOut_8 (by decide) ?_
  refine g_aload_n hX d_Sp_carryOut_9 rfl 1 rfl ?_
  refine g_getf (i := (344 + n0)) (kf := 0) hX (lt_D q1) rfl (lay_D9 q2) rfl in_Sp (by decide) t_241 (Or.inr t_242) rfl d_Sp_carryOut_10 ?_
  refine g_imul hX d_Sp_carryOut_13 ?_
  obtain ⟨q4, h⟩ := h
  refine g_aald (i := 3) 4 hX (lt_c (by decide)) rfl (lay_pa (AC := AC) (Γ := Γ) (σ := σ)) rfl q4 (if_pos (in_lt q4)) d_Sp_carryOut_14 ?_
  refine g_astore_n hX d_Sp_carryOut_15 rfl (by decide) rfl ?_
  refine g_aload_n hX d_Sp_carryOut_16 rfl 3 rfl ?_
  refine g_iconst (v := 2) hX d_Sp_carryOut_17 (by decide) ?_
  refine g_aload_n hX d_Sp_carryOut_18 rfl 2 rfl ?_
  refine g_getf (i := (344 + n0)) (kf := 0) hX (lt_D q1) rfl (lay_D9 q2) rfl in_Sp (by decide) t_241 (Or.inr t_242) rfl d_Sp_carryOut_19 ?_
  refine g_imul hX d_Sp_carryOut_22 ?_
  refine g_iconst (v := 1) hX d_Sp_carryOut_23 (by decide) ?_
  refine g_iadd hX d_Sp_carryOut_24 ?_
  obtain ⟨q5, h⟩ := h
  refine g_aald (i := 3) 4 hX (lt_c (by decide)) rfl (lay_pa (AC := AC) (Γ := Γ) (σ := σ)) rfl q5 (if_pos (in_lt q5)) d_Sp_carryOut_25 ?_
  refine g_astore hX d_Sp_carryOut_26 (by decide) rfl ?_
  refine g_aload_n hX d_Sp_carryOut_28 rfl 2 rfl ?_
  refine g_iconst (v := 0) hX d_Sp_carryOut_29 (by decide) ?_
  refine g_putf (i := (4 + 4 * ((St.I (σ) 10 n0)).toNatClampNeg)) (kf := 0) (ty := .boolean) hX (lt_P (in_lt q3)) rfl (lay_p (in_lt q3)) rfl in_P ty_P nm_P (by decide) t_45 (Or.inl rfl) rfl (by decide +kernel) rfl rfl (by show _ < List.length _; simp) d_Sp_carryOut_30 (wσ_lives (in_lt q3) _) ?_
  refine g_aload_n hX d_Sp_carryOut_33 rfl 1 rfl ?_
  refine g_aload_n hX d_Sp_carryOut_34 rfl 2 rfl ?_
  refine g_aload_n hX d_Sp_carryOut_35 rfl 3 rfl ?_
  refine g_getf (i := (344 + n0)) (kf := 5) hX (lt_D q1) rfl (lay_D9 q2) rfl in_Sp (by decide) t_613 (Or.inl rfl) rfl d_Sp_carryOut_36 ?_
  refine g_i2l hX d_Sp_carryOut_39 ?_
  refine g_callV (i := (4 + 4 * (((2 : Int32) * (St.I (σ) 6 n0))).toNatClampNeg)) (k := 0) (n := 0) hX (c_P_makeFrom h) hdT_P_makeFrom hdO_P_makeFrom t_2 t_423 t_392 t_393 (lt_P (in_lt q4)) rfl (lay_p (in_lt q4)) rfl ⟨⟨by decide, by decide⟩, np_P_makeFrom⟩ ⟨Nat.le_of_ble_eq_true rfl, Nat.le_of_ble_eq_true rfl⟩ (Nat.le_of_ble_eq_true rfl) d_Sp_carryOut_40 rfl ?_ (fun _ _ z => z)
  rintro _ _ ⟨σ7, rfl, rfl, h⟩
  refine g_aload_n hX d_Sp_carryOut_43 rfl 1 rfl ?_
  refine g_aload_n hX d_Sp_carryOut_44 rfl 3 rfl ?_
  refine g_getf (i := (344 + n0)) (kf := 4) hX (lt_D q1) rfl (lay_D9 q2) rfl in_Sp (by decide) t_612 (Or.inl rfl) rfl d_Sp_carryOut_45 ?_
  refine g_putf (i := (4 + 4 * (((2 : Int32) * (St.I (σ) 6 n0))).toNatClampNeg)) (kf := 7) (ty := .int) hX (lt_P (in_lt q4)) rfl (lay_p (in_lt q4)) rfl in_P ty_P nm_P (by decide) t_71 (Or.inl rfl) rfl (by decide +kernel) rfl rfl (by show _ < List.length _; simp) d_Sp_carryOut_48 (wσ_o1 (in_lt q4) _) ?_
  refine g_aload hX d_Sp_carryOut_51 0 rfl ?_
  refine g_aload_n hX d_Sp_carryOut_53 rfl 2 rfl ?_
  refine g_aload_n hX d_Sp_carryOut_54 rfl 2 rfl ?_
  refine g_getf (i := (4 + 4 * ((St.I (σ) 10 n0)).toNatClampNeg)) (kf := 1) hX (lt_P (in_lt q3)) rfl (lay_p (in_lt q3)) rfl in_P (by decide) t_47 (Or.inl rfl) rfl d_Sp_carryOut_55 ?_
  refine g_aload_n hX d_Sp_carryOut_58 rfl 3 rfl ?_
  refine g_getf (i := (344 + n0)) (kf := 5) hX (lt_D q1) rfl (lay_D9 q2) rfl in_Sp (by decide) t_613 (Or.inl rfl) rfl d_Sp_carryOut_59 ?_
  refine g_i2l hX d_Sp_carryOut_62 ?_
  refine g_lsub hX d_Sp_carryOut_63 ?_
  refine g_callV (i := (4 + 4 * ((((2 : Int32) * (St.I (σ) 6 n0)) + (1 : Int32))).toNatClampNeg)) (k := 0) (n := 0) hX (c_P_makeFrom h) hdT_P_makeFrom hdO_P_makeFrom t_2 t_423 t_392 t_393 (lt_P (in_lt q5)) rfl (lay_p (in_lt q5)) rfl ⟨⟨by decide, by decide⟩, np_P_makeFrom⟩ ⟨Nat.le_of_ble_eq_true rfl, Nat.le_of_ble_eq_true rfl⟩ (Nat.le_of_ble_eq_true rfl) d_Sp_carryOut_64 rfl ?_ (fun _ _ z => z)
  rintro _ _ ⟨σ9, rfl, rfl, h⟩
  refine g_aload hX d_Sp_carryOut_67 0 rfl ?_
  refine g_aload_n hX d_Sp_carryOut_69 rfl 3 rfl ?_
  refine g_getf (i := (344 + n0)) (kf := 4) hX (lt_D q1) rfl (lay_D9 q2) rfl in_Sp (by decide) t_612 (Or.inl rfl) rfl d_Sp_carryOut_70 ?_
  refine g_putf (i := (4 + 4 * ((((2 : Int32) * (St.I (σ) 6 n0)) + (1 : Int32))).toNatClampNeg)) (kf := 7) (ty := .int) hX (lt_P (in_lt q5)) rfl (lay_p (in_lt q5)) rfl in_P ty_P nm_P (by decide) t_71 (Or.inl rfl) rfl (by decide +kernel) rfl rfl (by show _ < List.length _; simp) d_Sp_carryOut_73 (wσ_o1 (in_lt q5) _) ?_
  exact g_vret hX rfl d_Sp_carryOut_76 ⟨_, rfl, rfl, h⟩

def wp_Me_hindrance (Γ : Ev) (n0 : Nat) (σ : St) (post : Int32 → St → Prop) (thr : String → St → Prop) : Prop := (n0 < Γ.nd ∧ (Γ.K n0 = 10 ∧ (vp_in (St.I (σ) 10 n0) 80 ∧ (vp_in (St.I (σ) 11 n0) 80 ∧ (((St.I (σ) 1 (((St.I (σ) 10 n0)).toNatClampNeg)) = 0 → post (1 : Int32) (σ)) ∧ (¬ (St.I (σ) 1 (((St.I (σ) 10 n0)).toNatClampNeg)) = 0 → ((¬ (St.I (σ) 1 (((St.I (σ) 11 n0)).toNatClampNeg)) = 0 → ((¬ (St.I (σ) 3 (((St.I (σ) 10 n0)).toNatClampNeg)) = 0 → post (2 : Int32) (σ)) ∧ ((St.I (σ) 3 (((St.I (σ) 10 n0)).toNatClampNeg)) = 0 → (((St.I (σ) 3 (((St.I (σ) 11 n0)).toNatClampNeg)) = 0 → wp_P_hasSharesOf Γ (((St.I (σ) 10 n0)).toNatClampNeg) (((St.I (σ) 11 n0)).toNatClampNeg) (σ) (fun v9 σ10 => ((¬ v9 = 0 → wp_P_hasMortgagesOf Γ (((St.I (σ) 10 n0)).toNatClampNeg) (((St.I (σ) 11 n0)).toNatClampNeg) (σ10) (fun v12 σ13 => ((v12 = 0 → post (11 : Int32) (σ13)) ∧ (¬ v12 = 0 → post (0 : Int32) (σ13)))) thr) ∧ (v9 = 0 → post (10 : Int32) (σ10)))) thr) ∧ (¬ (St.I (σ) 3 (((St.I (σ) 11 n0)).toNatClampNeg)) = 0 → post (2 : Int32) (σ)))))) ∧ ((St.I (σ) 1 (((St.I (σ) 11 n0)).toNatClampNeg)) = 0 → post (1 : Int32) (σ)))))))))
abbrev rm_Me_hindrance : Room := { frames := 1, cells := 0, slots := 0, locals := 22 }
set_option maxRecDepth 100000 in
set_option maxHeartbeats 4000000 in
theorem c_Me_hindrance {l : Launch} {D : va_G} {AC : Nat → ClassId} {lo : Nat} {Γ : Ev} {n0 : Nat} {σ : St} {post : Int32 → St → Prop} {thr : String → St → Prop} (h : wp_Me_hindrance Γ n0 σ post thr) : Ct l y_Me_hindrance hd_Me_hindrance rm_Me_hindrance D AC lo [.ref (Γ.ad (344 + n0)), .ref (Γ.ad 3)] (wσ AC Γ σ) (pI AC Γ post) (tX AC Γ thr) := by
  refine Ct.of (by decide) (Nat.le_of_ble_eq_true rfl) ?_
  intro p e s m args below meth c hadm hX
  unfold wp_Me_hindrance at h
  obtain ⟨q1, q2, h⟩ := h
  show G p l e rm_Me_hindrance s m args below meth c 4 D lo (pI AC Γ post) (tX AC Γ thr) (wσ AC Γ (σ)) 0 0 0 [(0, .ref (Γ.ad (344 + n0))), (1, .ref (Γ.ad 3))] []
  refine g_aload_n hX d_Me_hindrance_0 rfl 1 rfl ?_
  refine g_aload_n hX d_Me_hindrance_1 rfl 0 rfl ?_
  refine g_getf (i := (344 + n0)) (kf := 4) hX (lt_D q1) rfl (lay_D10 q2) rfl in_Me (by decide) t_636 (Or.inl rfl) rfl d_Me_hindrance_2 ?_
  obtain ⟨q3, h⟩ := h
  refine g_aald (i := 3) 4 hX (lt_c (by decide)) rfl (lay_pa (AC := AC) (Γ := Γ) (σ := σ)) rfl q3 (if_pos (in_lt q3)) d_Me_hindrance_5 ?_
  refine g_astore_n hX d_Me_hindrance_6 rfl (by decide) rfl ?_
  refine g_aload_n hX d_Me_hindrance_7 rfl 2 rfl ?_
  refine g_aload_n hX d_Me_hindrance_8 rfl 1 rfl ?_
  refine g_getf (i := (344 + n0)) (kf := 5) hX (lt_D q1) rfl (lay_D10 q2) rfl in_Me (by decide) t_637 (Or.inl rfl) rfl d_Me_hindrance_9 ?_
  obtain ⟨q4, h⟩ := h
  refine g_aald (i := 3) 4 hX (lt_c (by decide)) rfl (lay_pa (AC := AC) (Γ := Γ) (σ := σ)) rfl q4 (if_pos (in_lt q4)) d_Me_hindrance_12 ?_
  refine g_astore_n hX d_Me_hindrance_13 rfl (by decide) rfl ?_
  refine g_aload_n hX d_Me_hindrance_14 rfl 1 rfl ?_
  refine g_getf (i := (4 + 4 * ((St.I (σ) 10 n0)).toNatClampNeg)) (kf := 0) hX (lt_P (in_lt q3)) rfl (lay_p (in_lt q3)) rfl in_P (by decide) t_44 (Or.inl rfl) rfl d_Me_hindrance_15 ?_
  refine g_if_eq (tgt := 28) hX d_Me_hindrance_18 (by decide) (fun q5 => ?_) (fun q5 => ?_)
  · have h := h.1 q5
    refine g_iconst (v := 1) hX d_Me_hindrance_28 (by decide) ?_
    exact g_iret hX rfl d_Me_hindrance_29 ⟨_, _, rfl, rfl, h⟩
  · have h := h.2 q5
    refine g_aload_n hX d_Me_hindrance_21 rfl 0 rfl ?_
    refine g_getf (i := (4 + 4 * ((St.I (σ) 11 n0)).toNatClampNeg)) (kf := 0) hX (lt_P (in_lt q4)) rfl (lay_p (in_lt q4)) rfl in_P (by decide) t_44 (Or.inl rfl) rfl d_Me_hindrance_22 ?_
    refine g_if_ne (tgt := 30) hX d_Me_hindrance_25 (by decide) (fun q6 => ?_) (fun q6 => ?_)
    · have h := h.1 q6
      refine g_aload_n hX d_Me_hindrance_30 rfl 1 rfl ?_
      refine g_getf (i := (4 + 4 * ((St.I (σ) 10 n0)).toNatClampNeg)) (kf := 6) hX (lt_P (in_lt q3)) rfl (lay_p (in_lt q3)) rfl in_P (by decide) t_65 (Or.inl rfl) rfl d_Me_hindrance_31 ?_
      refine g_if_ne (tgt := 44) hX d_Me_hindrance_34 (by decide) (fun q7 => ?_) (fun q7 => ?_)
      · have h := h.1 q7
        refine g_iconst (v := 2) hX d_Me_hindrance_44 (by decide) ?_
        exact g_iret hX rfl d_Me_hindrance_45 ⟨_, _, rfl, rfl, h⟩
      · have h := h.2 q7
        refine g_aload_n hX d_Me_hindrance_37 rfl 0 rfl ?_
        refine g_getf (i := (4 + 4 * ((St.I (σ) 11 n0)).toNatClampNeg)) (kf := 6) hX (lt_P (in_lt q4)) rfl (lay_p (in_lt q4)) rfl in_P (by decide) t_65 (Or.inl rfl) rfl d_Me_hindrance_38 ?_
        refine g_if_eq (tgt := 46) hX d_Me_hindrance_41 (by decide) (fun q8 => ?_) (fun q8 => ?_)
        · have h := h.1 q8
          refine g_aload_n hX d_Me_hindrance_46 rfl 1 rfl ?_
          refine g_aload_n hX d_Me_hindrance_47 rfl 0 rfl ?_
          refine g_callV (i := (4 + 4 * ((St.I (σ) 10 n0)).toNatClampNeg)) (k := 0) (n := 0) hX (c_P_hasSharesOf h) hdT_P_hasSharesOf hdO_P_hasSharesOf t_2 t_295 t_296 t_297 (lt_P (in_lt q3)) rfl (lay_p (in_lt q3)) rfl ⟨⟨by decide, by decide⟩, np_P_hasSharesOf⟩ ⟨Nat.le_of_ble_eq_true rfl, Nat.le_of_ble_eq_true rfl⟩ (Nat.le_of_ble_eq_true rfl) d_Me_hindrance_48 rfl ?_ (fun _ _ z => z)
          rintro _ _ ⟨v9, σ10, rfl, rfl, h⟩
          refine g_if_ne (tgt := 57) hX d_Me_hindrance_51 (by decide) (fun q11 => ?_) (fun q11 => ?_)
          · have h := h.1 q11
            refine g_aload_n hX d_Me_hindrance_57 rfl 1 rfl ?_
            refine g_aload_n hX d_Me_hindrance_58 rfl 0 rfl ?_
            refine g_callV (i := (4 + 4 * ((St.I (σ) 10 n0)).toNatClampNeg)) (k := 0) (n := 0) hX (c_P_hasMortgagesOf h) hdT_P_hasMortgagesOf hdO_P_hasMortgagesOf t_2 t_299 t_300 t_301 (lt_P (in_lt q3)) rfl (lay_p (in_lt q3)) rfl ⟨⟨by decide, by decide⟩, np_P_hasMortgagesOf⟩ ⟨Nat.le_of_ble_eq_true rfl, Nat.le_of_ble_eq_true rfl⟩ (Nat.le_of_ble_eq_true rfl) d_Me_hindrance_59 rfl ?_ (fun _ _ z => z)
            rintro _ _ ⟨v12, σ13, rfl, rfl, h⟩
            refine g_if_eq (tgt := 69) hX d_Me_hindrance_62 (by decide) (fun q14 => ?_) (fun q14 => ?_)
            · have h := h.1 q14
              refine g_bipush (v := 11) hX d_Me_hindrance_69 (by decide) ?_
              exact g_iret hX rfl d_Me_hindrance_71 ⟨_, _, rfl, rfl, h⟩
            · have h := h.2 q14
              refine g_iconst (v := 0) hX d_Me_hindrance_65 (by decide) ?_
              refine g_goto (tgt := 71) hX d_Me_hindrance_66 (by decide) ?_
              exact g_iret hX rfl d_Me_hindrance_71 ⟨_, _, rfl, rfl, h⟩
          · have h := h.2 q11
            refine g_bipush (v := 10) hX d_Me_hindrance_54 (by decide) ?_
            exact g_iret hX rfl d_Me_hindrance_56 ⟨_, _, rfl, rfl, h⟩
        · have h := h.2 q8
          refine g_iconst (v := 2) hX d_Me_hindrance_44 (by decide) ?_
          exact g_iret hX rfl d_Me_hindrance_45 ⟨_, _, rfl, rfl, h⟩
    · have h := h.2 q6
      refine g_iconst (v := 1) hX d_Me_hindrance_28 (by decide) ?_
      exact g_iret hX rfl d_Me_hindrance_29 ⟨_, _, rfl, rfl, h⟩

def wp_Me_carryOut (Γ : Ev) (n0 : Nat) (σ : St) (post : St → Prop) (thr : String → St → Prop) : Prop := (n0 < Γ.nd ∧ (Γ.K n0 = 10 ∧ (vp_in (St.I (σ) 10 n0) 80 ∧ (vp_in (St.I (σ) 11 n0) 80 ∧ (vp_in ((2 : Int32) * (St.I (σ) 6 n0)) 80 ∧ wp_P_makeFrom Γ ((((2 : Int32) * (St.I (σ) 6 n0))).toNatClampNeg) (((St.I (σ) 10 n0)).toNatClampNeg) (((St.L (St.sI (St.sI (σ) 1 (((St.I (σ) 10 n0)).toNatClampNeg) (0 : Int32)) 1 (((St.I (σ) 11 n0)).toNatClampNeg) (0 : Int32)) 1 (((St.I (σ) 10 n0)).toNatClampNeg)) + (St.L (St.sI (St.sI (σ) 1 (((St.I (σ) 10 n0)).toNatClampNeg) (0 : Int32)) 1 (((St.I (σ) 11 n0)).toNatClampNeg) (0 : Int32)) 1 (((St.I (σ) 11 n0)).toNatClampNeg)))) (St.sI (St.sI (σ) 1 (((St.I (σ) 10 n0)).toNatClampNeg) (0 : Int32)) 1 (((St.I (σ) 11 n0)).toNatClampNeg) (0 : Int32)) (fun σ7 => post (St.sI (St.sI (σ7) 4 ((((2 : Int32) * (St.I (σ) 6 n0))).toNatClampNeg) (St.I (σ7) 10 n0)) 5 ((((2 : Int32) * (St.I (σ) 6 n0))).toNatClampNeg) (St.I (St.sI (σ7) 4 ((((2 : Int32) * (St.I (σ) 6 n0))).toNatClampNeg) (St.I (σ7) 10 n0)) 11 n0))) thr)))))
abbrev rm_Me_carryOut : Room := { frames := 2, cells := 0, slots := 0, locals := 83 }
set_option maxRecDepth 100000 in
set_option maxHeartbeats 4000000 in
theorem c_Me_carryOut {l : Launch} {D : va_G} {AC : Nat → ClassId} {lo : Nat} {Γ : Ev} {n0 : Nat} {σ : St} {post : St → Prop} {thr : String → St → Prop} (h : wp_Me_carryOut Γ n0 σ post thr) : Ct l y_Me_carryOut hd_Me_carryOut rm_Me_carryOut D AC lo [.ref (Γ.ad (344 + n0)), .ref (Γ.ad 3)] (wσ AC Γ σ) (pV AC Γ post) (tX AC Γ thr) := by
  refine Ct.of (by decide) (Nat.le_of_ble_eq_true rfl) ?_
  intro p e s m args below meth c hadm hX
  unfold wp_Me_carryOut at h
  obtain ⟨q1, q2, h⟩ := h
  show G p l e rm_Me_carryOut s m args below meth c 5 D lo (pV AC Γ post) (tX AC Γ thr) (wσ AC Γ (σ)) 0 0 0 [(0, .ref (Γ.ad (344 + n0))), (1, .ref (Γ.ad 3))] []
  refine g_aload_n hX d_Me_carryOut_0 rfl 1 rfl ?_
  refine g_aload_n hX d_Me_carryOut_1 rfl 0 rfl ?_
  refine g_getf (i := (344 + n0)) (kf := 4) hX (lt_D q1) rfl (lay_D10 q2) rfl in_Me (by decide) t_636 (Or.inl rfl) rfl d_Me_carryOut_2 ?_
  obtain ⟨q3, h⟩ := h
  refine g_aald (i := 3) 4 hX (lt_c (by decide)) rfl (lay_pa (AC := AC) (Γ := Γ) (σ := σ)) rfl q3 (if_pos (in_lt q3)) d_Me_carryOut_5 ?_
  refine g_astore_n hX d_Me_carryOut_6 rfl (by decide) rfl ?_
  refine g_aload_n hX d_Me_carryOut_7 rfl 2 rfl ?_
  refine g_aload_n hX d_Me_carryOut_8 rfl 1 rfl ?_
  refine g_getf (i := (344 + n0)) (kf := 5) hX (lt_D q1) rfl (lay_D10 q2) rfl in_Me (by decide) t_637 (Or.inl rfl) rfl d_Me_carryOut_9 ?_
  obtain ⟨q4, h⟩ := h
  refine g_aald (i := 3) 4 hX (lt_c (by decide)) rfl (lay_pa (AC := AC) (Γ := Γ) (σ := σ)) rfl q4 (if_pos (in_lt q4)) d_Me_carryOut_12 ?_
  refine g_astore_n hX d_Me_carryOut_13 rfl (by decide) rfl ?_
  refine g_aload_n hX d_Me_carryOut_14 rfl 3 rfl ?_
  refine g_iconst (v := 2) hX d_Me_carryOut_15 (by decide) ?_
  refine g_aload_n hX d_Me_carryOut_16 rfl 2 rfl ?_
  refine g_getf (i := (344 + n0)) (kf := 0) hX (lt_D q1) rfl (lay_D10 q2) rfl in_Me (by decide) t_243 (Or.inr t_244) rfl d_Me_carryOut_17 ?_
  refine g_imul hX d_Me_carryOut_20 ?_
  obtain ⟨q5, h⟩ := h
  refine g_aald (i := 3) 4 hX (lt_c (by decide)) rfl (lay_pa (AC := AC) (Γ := Γ) (σ := σ)) rfl q5 (if_pos (in_lt q5)) d_Me_carryOut_21 ?_
  refine g_astore hX d_Me_carryOut_22 (by decide) rfl ?_
  refine g_aload_n hX d_Me_carryOut_24 rfl 2 rfl ?_
  refine g_iconst (v := 0) hX d_Me_carryOut_25 (by decide) ?_
  refine g_putf (i := (4 + 4 * ((St.I (σ) 10 n0)).toNatClampNeg)) (kf := 0) (ty := .boolean) hX (lt_P (in_lt q3)) rfl (lay_p (in_lt q3)) rfl in_P ty_P nm_P (by decide) t_44 (Or.inl rfl) rfl (by decide +kernel) rfl rfl (by show _ < List.length _; simp) d_Me_carryOut_26 (wσ_lives (in_lt q3) _) ?_
  refine g_aload_n hX d_Me_carryOut_29 rfl 1 rfl ?_
  refine g_iconst (v := 0) hX d_Me_carryOut_30 (by decide) ?_
  refine g_putf (i := (4 + 4 * ((St.I (σ) 11 n0)).toNatClampNeg)) (kf := 0) (ty := .boolean) hX (lt_P (in_lt q4)) rfl (lay_p (in_lt q4)) rfl in_P ty_P nm_P (by decide) t_44 (Or.inl rfl) rfl (by decide +kernel) rfl rfl (by show _ < List.length _; simp) d_Me_carryOut_31 (wσ_lives (in_lt q4) _) ?_
  refine g_aload hX d_Me_carryOut_34 0 rfl ?_
  refine g_aload_n hX d_Me_carryOut_36 rfl 2 rfl ?_
  refine g_aload_n hX d_Me_carryOut_37 rfl 2 rfl ?_
  refine g_getf (i := (4 + 4 * ((St.I (σ) 10 n0)).toNatClampNeg)) (kf := 1) hX (lt_P (in_lt q3)) rfl (lay_p (in_lt q3)) rfl in_P (by decide) t_49 (Or.inl rfl) rfl d_Me_carryOut_38 ?_
  refine g_aload_n hX d_Me_carryOut_41 rfl 1 rfl ?_
  refine g_getf (i := (4 + 4 * ((St.I (σ) 11 n0)).toNatClampNeg)) (kf := 1) hX (lt_P (in_lt q4)) rfl (lay_p (in_lt q4)) rfl in_P (by decide) t_49 (Or.inl rfl) rfl d_Me_carryOut_42 ?_
  refine g_ladd hX d_Me_carryOut_45 ?_
  refine g_callV (i := (4 + 4 * (((2 : Int32) * (St.I (σ) 6 n0))).toNatClampNeg)) (k := 0) (n := 0) hX (c_P_makeFrom h) hdT_P_makeFrom hdO_P_makeFrom t_2 t_391 t_392 t_393 (lt_P (in_lt q5)) rfl (lay_p (in_lt q5)) rfl ⟨⟨by decide, by decide⟩, np_P_makeFrom⟩ ⟨Nat.le_of_ble_eq_true rfl, Nat.le_of_ble_eq_true rfl⟩ (Nat.le_of_ble_eq_true rfl) d_Me_carryOut_46 rfl ?_ (fun _ _ z => z)
  rintro _ _ ⟨σ7, rfl, rfl, h⟩
  refine g_aload hX d_Me_carryOut_49 0 rfl ?_
  refine g_aload_n hX d_Me_carryOut_51 rfl 3 rfl ?_
  refine g_getf (i := (344 + n0)) (kf := 4) hX (lt_D q1) rfl (lay_D10 q2) rfl in_Me (by decide) t_636 (Or.inl rfl) rfl d_Me_carryOut_52 ?_
  refine g_putf (i := (4 + 4 * (((2 : Int32) * (St.I (σ) 6 n0))).toNatClampNeg)) (kf := 7) (ty := .int) hX (lt_P (in_lt q5)) rfl (lay_p (in_lt q5)) rfl in_P ty_P nm_P (by decide) t_72 (Or.inl rfl) rfl (by decide +kernel) rfl rfl (by show _ < List.length _; simp) d_Me_carryOut_55 (wσ_o1 (in_lt q5) _) ?_
  refine g_aload hX d_Me_carryOut_58 0 rfl ?_
  refine g_aload_n hX d_Me_carryOut_60 rfl 3 rfl ?_
  refine g_getf (i := (344 + n0)) (kf := 5) hX (lt_D q1) rfl (lay_D10 q2) rfl in_Me (by decide) t_637 (Or.inl rfl) rfl d_Me_carryOut_61 ?_
  refine g_putf (i := (4 + 4 * (((2 : Int32) * (St.I (σ) 6 n0))).toNatClampNeg)) (kf := 8) (ty := .int) hX (lt_P (in_lt q5)) rfl (lay_p (in_lt q5)) rfl in_P ty_P nm_P (by decide) t_75 (Or.inl rfl) rfl (by decide +kernel) rfl rfl (by show _ < List.length _; simp) d_Me_carryOut_64 (wσ_o2 (in_lt q5) _) ?_
  exact g_vret hX rfl d_Me_carryOut_67 ⟨_, rfl, rfl, h⟩
theorem npx_hindrance : (parseMethodDescriptor (⟨"LandRegister$Deed", "hindrance", "([LLandRegister$Parcel;)I"⟩ : MethodName).desc).map (fun d => d.parameters.length) = some 1 := by decide +kernel
def wp_De_hindrance (Γ : Ev) (n0 : Nat) (σ : St) (post : Int32 → St → Prop) (thr : String → St → Prop) : Prop := (Γ.K n0 = 2 → wp_Fo_hindrance Γ n0 σ post thr) ∧ (Γ.K n0 = 3 → wp_Se_hindrance Γ n0 σ post thr) ∧ (Γ.K n0 = 4 → wp_Pl_hindrance Γ n0 σ post thr) ∧ (Γ.K n0 = 5 → wp_Re_hindrance Γ n0 σ post thr) ∧ (Γ.K n0 = 6 → wp_Rl_hindrance Γ n0 σ post thr) ∧ (Γ.K n0 = 7 → wp_Ca_hindrance Γ n0 σ post thr) ∧ (Γ.K n0 = 8 → wp_Li_hindrance Γ n0 σ post thr) ∧ (Γ.K n0 = 9 → wp_Sp_hindrance Γ n0 σ post thr) ∧ (Γ.K n0 = 10 → wp_Me_hindrance Γ n0 σ post thr)
theorem g_abs_hindrance {p : Program} {l : Launch} {e : Env} {R : Room} {s : State} {m : MethodId} {args : Array Value} {below : List Frame} {meth : Method} {c : Code} {ym : MethodName} {cc : ByteArray} {nL : Nat} {ret : Option FieldType} {D : va_G} {AC : Nat → ClassId} {lo : Nat} {post : Option Value → Wst → Prop} {Γ : Ev} {σ : St} {thr : String → St → Prop} {k n pc : Nat} {lv : List (Nat × Value)} {st : List Value} {n0 : Nat} {post2 : Int32 → St → Prop} (hX : Cx p s m args meth c ym cc nL ret [] D AC lo) (h : wp_De_hindrance Γ n0 σ post2 thr) (hn : n0 < Γ.nd) (hK : 2 ≤ Γ.K n0 ∧ Γ.K n0 ≤ 10) (hy : ym.cls = "LandRegister") (hR : 4 ≤ R.frames ∧ 108 ≤ R.locals) (hroom : (st.map fun v => v.category).sum ≤ 8) (hd : decode cc pc = .ok (.invokevirtual 195, 3))
    (kr : ∀ v w', pI AC Γ post2 v w' → G p l e R s m args below meth c nL D lo post (tX AC Γ thr) w' k n (pc + 3) lv (v.toList ++ st)) :
    G p l e R s m args below meth c nL D lo post (tX AC Γ thr) (wσ AC Γ σ) k n pc lv (.ref (Γ.ad 3) :: .ref (Γ.ad (344 + n0)) :: st) := by
  unfold wp_De_hindrance at h
  have hlk : Cond.methodLink ym.cls 195 ⟨"LandRegister$Deed", "hindrance", "([LLandRegister$Parcel;)I"⟩ ∈ TT := by rw [hy]; exact t_275
  rcases K_cases hK with hk | hk | hk | hk | hk | hk | hk | hk | hk
  · exact g_callU (i := 344 + n0) (x := ⟨"LandRegister$Deed", "hindrance", "([LLandRegister$Parcel;)I"⟩) (y2 := y_Fo_hindrance) hX (c_Fo_hindrance (h.1 hk)) hdT_Fo_hindrance hdO_Fo_hindrance t_10 hlk t_277 n_276 t_286 t_285 (lt_D hn) rfl (lay_D2 hk) rfl ⟨⟨by decide, by decide⟩, npx_hindrance⟩ ⟨by have := hR.1; simp only []; omega, by have := hR.2; simp only []; omega⟩ hroom hd rfl kr (fun _ _ z => z)
  · exact g_callU (i := 344 + n0) (x := ⟨"LandRegister$Deed", "hindrance", "([LLandRegister$Parcel;)I"⟩) (y2 := y_Se_hindrance) hX (c_Se_hindrance (h.2.1 hk)) hdT_Se_hindrance hdO_Se_hindrance t_14 hlk t_277 n_276 t_330 t_329 (lt_D hn) rfl (lay_D3 hk) rfl ⟨⟨by decide, by decide⟩, npx_hindrance⟩ ⟨by have := hR.1; simp only []; omega, by have := hR.2; simp only []; omega⟩ hroom hd rfl kr (fun _ _ z => z)
  · exact g_callU (i := 344 + n0) (x := ⟨"LandRegister$Deed", "hindrance", "([LLandRegister$Parcel;)I"⟩) (y2 := y_Pl_hindrance) hX (c_Pl_hindrance (h.2.2.1 hk)) hdT_Pl_hindrance hdO_Pl_hindrance t_15 hlk t_277 n_276 t_304 t_303 (lt_D hn) rfl (lay_D4 hk) rfl ⟨⟨by decide, by decide⟩, npx_hindrance⟩ ⟨by have := hR.1; simp only []; omega, by have := hR.2; simp only []; omega⟩ hroom hd rfl kr (fun _ _ z => z)
  · exact g_callU (i := 344 + n0) (x := ⟨"LandRegister$Deed", "hindrance", "([LLandRegister$Parcel;)I"⟩) (y2 := y_Re_hindrance) hX (c_Re_hindrance (h.2.2.2.1 hk)) hdT_Re_hindrance hdO_Re_hindrance t_16 hlk t_277 n_276 t_314 t_313 (lt_D hn) rfl (lay_D5 hk) rfl ⟨⟨by decide, by decide⟩, npx_hindrance⟩ ⟨by have := hR.1; simp only []; omega, by have := hR.2; simp only []; omega⟩ hroom hd rfl kr (fun _ _ z => z)
  · exact g_callU (i := 344 + n0) (x := ⟨"LandRegister$Deed", "hindrance", "([LLandRegister$Parcel;)I"⟩) (y2 := y_Rl_hindrance) hX (c_Rl_hindrance (h.2.2.2.2.1 hk)) hdT_Rl_hindrance hdO_Rl_hindrance t_17 hlk t_277 n_276 t_311 t_310 (lt_D hn) rfl (lay_D6 hk) rfl ⟨⟨by decide, by decide⟩, npx_hindrance⟩ ⟨by have := hR.1; simp only []; omega, by have := hR.2; simp only []; omega⟩ hroom hd rfl kr (fun _ _ z => z)
  · exact g_callU (i := 344 + n0) (x := ⟨"LandRegister$Deed", "hindrance", "([LLandRegister$Parcel;)I"⟩) (y2 := y_Ca_hindrance) hX (c_Ca_hindrance (h.2.2.2.2.2.1 hk)) hdT_Ca_hindrance hdO_Ca_hindrance t_18 hlk t_277 n_276 t_279 t_278 (lt_D hn) rfl (lay_D7 hk) rfl ⟨⟨by decide, by decide⟩, npx_hindrance⟩ ⟨by have := hR.1; simp only []; omega, by have := hR.2; simp only []; omega⟩ hroom hd rfl kr (fun _ _ z => z)
  · exact g_callU (i := 344 + n0) (x := ⟨"LandRegister$Deed", "hindrance", "([LLandRegister$Parcel;)I"⟩) (y2 := y_Li_hindrance) hX (c_Li_hindrance (h.2.2.2.2.2.2.1 hk)) hdT_Li_hindrance hdO_Li_hindrance t_19 hlk t_277 n_276 t_289 t_288 (lt_D hn) rfl (lay_D8 hk) rfl ⟨⟨by decide, by decide⟩, npx_hindrance⟩ ⟨by have := hR.1; simp only []; omega, by have := hR.2; simp only []; omega⟩ hroom hd rfl kr (fun _ _ z => z)
  · exact g_callU (i := 344 + n0) (x := ⟨"LandRegister$Deed", "hindrance", "([LLandRegister$Parcel;)I"⟩) (y2 := y_Sp_hindrance) hX (c_Sp_hindrance (h.2.2.2.2.2.2.2.1 hk)) hdT_Sp_hindrance hdO_Sp_hindrance t_20 hlk t_277 n_276 t_365 t_364 (lt_D hn) rfl (lay_D9 hk) rfl ⟨⟨by decide, by decide⟩, npx_hindrance⟩ ⟨by have := hR.1; simp only []; omega, by have := hR.2; simp only []; omega⟩ hroom hd rfl kr (fun _ _ z => z)
  · exact g_callU (i := 344 + n0) (x := ⟨"LandRegister$Deed", "hindrance", "([LLandRegister$Parcel;)I"⟩) (y2 := y_Me_hindrance) hX (c_Me_hindrance (h.2.2.2.2.2.2.2.2 hk)) hdT_Me_hindrance hdO_Me_hindrance t_21 hlk t_277 n_276 t_293 t_292 (lt_D hn) rfl (lay_D10 hk) rfl ⟨⟨by decide, by decide⟩, npx_hindrance⟩ ⟨by have := hR.1; simp only []; omega, by have := hR.2; simp only []; omega⟩ hroom hd rfl kr (fun _ _ z => z)
theorem npx_carryOut : (parseMethodDescriptor (⟨"LandRegister$Deed", "carryOut", "([LLandRegister$Parcel;)V"⟩ : MethodName).desc).map (fun d => d.parameters.length) = some 1 := by decide +kernel
def wp_De_carryOut (Γ : Ev) (n0 : Nat) (σ : St) (post : St → Prop) (thr : String → St → Prop) : Prop := (Γ.K n0 = 2 → wp_Fo_carryOut Γ n0 σ post thr) ∧ (Γ.K n0 = 3 → wp_Se_carryOut Γ n0 σ post thr) ∧ (Γ.K n0 = 4 → wp_Pl_carryOut Γ n0 σ post thr) ∧ (Γ.K n0 = 5 → wp_Re_carryOut Γ n0 σ post thr) ∧ (Γ.K n0 = 6 → wp_Rl_carryOut Γ n0 σ post thr) ∧ (Γ.K n0 = 7 → wp_Ca_carryOut Γ n0 σ post thr) ∧ (Γ.K n0 = 8 → wp_Li_carryOut Γ n0 σ post thr) ∧ (Γ.K n0 = 9 → wp_Sp_carryOut Γ n0 σ post thr) ∧ (Γ.K n0 = 10 → wp_Me_carryOut Γ n0 σ post thr)
theorem g_abs_carryOut {p : Program} {l : Launch} {e : Env} {R : Room} {s : State} {m : MethodId} {args : Array Value} {below : List Frame} {meth : Method} {c : Code} {ym : MethodName} {cc : ByteArray} {nL : Nat} {ret : Option FieldType} {D : va_G} {AC : Nat → ClassId} {lo : Nat} {post : Option Value → Wst → Prop} {Γ : Ev} {σ : St} {thr : String → St → Prop} {k n pc : Nat} {lv : List (Nat × Value)} {st : List Value} {n0 : Nat} {post2 : St → Prop} (hX : Cx p s m args meth c ym cc nL ret [] D AC lo) (h : wp_De_carryOut Γ n0 σ post2 thr) (hn : n0 < Γ.nd) (hK : 2 ≤ Γ.K n0 ∧ Γ.K n0 ≤ 10) (hy : ym.cls = "LandRegister") (hR : 4 ≤ R.frames ∧ 108 ≤ R.locals) (hroom : (st.map fun v => v.category).sum ≤ 8) (hd : decode cc pc = .ok (.invokevirtual 199, 3))
    (kr : ∀ v w', pV AC Γ post2 v w' → G p l e R s m args below meth c nL D lo post (tX AC Γ thr) w' k n (pc + 3) lv (v.toList ++ st)) :
    G p l e R s m args below meth c nL D lo post (tX AC Γ thr) (wσ AC Γ σ) k n pc lv (.ref (Γ.ad 3) :: .ref (Γ.ad (344 + n0)) :: st) := by
  unfold wp_De_carryOut at h
  have hlk : Cond.methodLink ym.cls 199 ⟨"LandRegister$Deed", "carryOut", "([LLandRegister$Parcel;)V"⟩ ∈ TT := by rw [hy]; exact t_368
  rcases K_cases hK with hk | hk | hk | hk | hk | hk | hk | hk | hk
  · exact g_callU (i := 344 + n0) (x := ⟨"LandRegister$Deed", "carryOut", "([LLandRegister$Parcel;)V"⟩) (y2 := y_Fo_carryOut) hX (c_Fo_carryOut (h.1 hk)) hdT_Fo_carryOut hdO_Fo_carryOut t_10 hlk t_370 n_369 t_375 t_374 (lt_D hn) rfl (lay_D2 hk) rfl ⟨⟨by decide, by decide⟩, npx_carryOut⟩ ⟨by have := hR.1; simp only []; omega, by have := hR.2; simp only []; omega⟩ hroom hd rfl kr (fun _ _ z => z)
  · exact g_callU (i := 344 + n0) (x := ⟨"LandRegister$Deed", "carryOut", "([LLandRegister$Parcel;)V"⟩) (y2 := y_Se_carryOut) hX (c_Se_carryOut (h.2.1 hk)) hdT_Se_carryOut hdO_Se_carryOut t_14 hlk t_370 n_369 t_418 t_417 (lt_D hn) rfl (lay_D3 hk) rfl ⟨⟨by decide, by decide⟩, npx_carryOut⟩ ⟨by have := hR.1; simp only []; omega, by have := hR.2; simp only []; omega⟩ hroom hd rfl kr (fun _ _ z => z)
  · exact g_callU (i := 344 + n0) (x := ⟨"LandRegister$Deed", "carryOut", "([LLandRegister$Parcel;)V"⟩) (y2 := y_Pl_carryOut) hX (c_Pl_carryOut (h.2.2.1 hk)) hdT_Pl_carryOut hdO_Pl_carryOut t_15 hlk t_370 n_369 t_399 t_398 (lt_D hn) rfl (lay_D4 hk) rfl ⟨⟨by decide, by decide⟩, npx_carryOut⟩ ⟨by have := hR.1; simp only []; omega, by have := hR.2; simp only []; omega⟩ hroom hd rfl kr (fun _ _ z => z)
  · exact g_callU (i := 344 + n0) (x := ⟨"LandRegister$Deed", "carryOut", "([LLandRegister$Parcel;)V"⟩) (y2 := y_Re_carryOut) hX (c_Re_carryOut (h.2.2.2.1 hk)) hdT_Re_carryOut hdO_Re_carryOut t_16 hlk t_370 n_369 t_413 t_412 (lt_D hn) rfl (lay_D5 hk) rfl ⟨⟨by decide, by decide⟩, npx_carryOut⟩ ⟨by have := hR.1; simp only []; omega, by have := hR.2; simp only []; omega⟩ hroom hd rfl kr (fun _ _ z => z)
  · exact g_callU (i := 344 + n0) (x := ⟨"LandRegister$Deed", "carryOut", "([LLandRegister$Parcel;)V"⟩) (y2 := y_Rl_carryOut) hX (c_Rl_carryOut (h.2.2.2.2.1 hk)) hdT_Rl_carryOut hdO_Rl_carryOut t_17 hlk t_370 n_369 t_406 t_405 (lt_D hn) rfl (lay_D6 hk) rfl ⟨⟨by decide, by decide⟩, npx_carryOut⟩ ⟨by have := hR.1; simp only []; omega, by have := hR.2; simp only []; omega⟩ hroom hd rfl kr (fun _ _ z => z)
  · exact g_callU (i := 344 + n0) (x := ⟨"LandRegister$Deed", "carryOut", "([LLandRegister$Parcel;)V"⟩) (y2 := y_Ca_carryOut) hX (c_Ca_carryOut (h.2.2.2.2.2.1 hk)) hdT_Ca_carryOut hdO_Ca_carryOut t_18 hlk t_370 n_369 t_372 t_371 (lt_D hn) rfl (lay_D7 hk) rfl ⟨⟨by decide, by decide⟩, npx_carryOut⟩ ⟨by have := hR.1; simp only []; omega, by have := hR.2; simp only []; omega⟩ hroom hd rfl kr (fun _ _ z => z)
  · exact g_callU (i := 344 + n0) (x := ⟨"LandRegister$Deed", "carryOut", "([LLandRegister$Parcel;)V"⟩) (y2 := y_Li_carryOut) hX (c_Li_carryOut (h.2.2.2.2.2.2.1 hk)) hdT_Li_carryOut hdO_Li_carryOut t_19 hlk t_370 n_369 t_386 t_385 (lt_D hn) rfl (lay_D8 hk) rfl ⟨⟨by decide, by decide⟩, npx_carryOut⟩ ⟨by have := hR.1; simp only []; omega, by have := hR.2; simp only []; omega⟩ hroom hd rfl kr (fun _ _ z => z)
  · exact g_callU (i := 344 + n0) (x := ⟨"LandRegister$Deed", "carryOut", "([LLandRegister$Parcel;)V"⟩) (y2 := y_Sp_carryOut) hX (c_Sp_carryOut (h.2.2.2.2.2.2.2.1 hk)) hdT_Sp_carryOut hdO_Sp_carryOut t_20 hlk t_370 n_369 t_421 t_420 (lt_D hn) rfl (lay_D9 hk) rfl ⟨⟨by decide, by decide⟩, npx_carryOut⟩ ⟨by have := hR.1; simp only []; omega, by have := hR.2; simp only []; omega⟩ hroom hd rfl kr (fun _ _ z => z)
  · exact g_callU (i := 344 + n0) (x := ⟨"LandRegister$Deed", "carryOut", "([LLandRegister$Parcel;)V"⟩) (y2 := y_Me_carryOut) hX (c_Me_carryOut (h.2.2.2.2.2.2.2.2 hk)) hdT_Me_carryOut hdO_Me_carryOut t_21 hlk t_370 n_369 t_389 t_388 (lt_D hn) rfl (lay_D10 hk) rfl ⟨⟨by decide, by decide⟩, npx_carryOut⟩ ⟨by have := hR.1; simp only []; omega, by have := hR.2; simp only []; omega⟩ hroom hd rfl kr (fun _ _ z => z)
