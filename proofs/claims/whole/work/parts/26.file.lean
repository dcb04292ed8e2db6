def wp_LR_found (Γ : Ev) (x1 : Int32) (x2 : Int32) (x3 : Int32) (σ : St) (post : Int32 → Ev → St → Prop) (thr : String → St → Prop) : Prop := wp_LR_requireFactDay Γ (x1) (σ) (fun σ2 => wp_LR_requirePerson Γ (x3) (σ2) (fun σ4 => wp_LR_requireUnits Γ (x2) (σ4) (fun σ6 => wp_LR_requireFreeNumber Γ  (σ6) (fun σ8 => (∀ qa, wp_Fo_init (Γ.deed 2 qa) Γ.nd (x2) (x3) (St.deed (σ8) Γ.nd) (fun σ1 => wp_LR_file (Γ.deed 2 qa) x1 Γ.nd σ1 (fun v2 σ2 => post v2 (Γ.deed 2 qa) σ2) (fun _ _ => False)) (fun _ _ => False))) thr) thr) thr) thr
abbrev rm_LR_found : Room := { frames := 7, cells := 5, slots := 30, locals := 156 }
set_option maxRecDepth 100000 in
set_option maxHeartbeats 4000000 in
theorem c_LR_found {l : Launch} {D : va_G} {AC : Nat → ClassId} {lo : Nat} {Γ : Ev} {x1 : Int32} {x2 : Int32} {x3 : Int32} {σ : St} {post : Int32 → Ev → St → Prop} {thr : String → St → Prop} (hl : l.flags = pinnedFlags ++ [noTraceFlag]) (h : wp_LR_found Γ x1 x2 x3 σ post thr) : Ct l y_LR_found hd_LR_found rm_LR_found D AC lo [.ref (Γ.ad 0), .int (x1), .int (x2), .int (x3)] (wσ AC Γ σ) (pIA AC Γ post) (tX AC Γ thr) := by
  refine Ct.of (by decide) (Nat.le_of_ble_eq_true rfl) ?_
  intro p e s m args below meth c hadm hX
  unfold wp_LR_found at h
  show G p l e rm_LR_found s m args below meth c 4 D lo (pIA AC Γ post) (tX AC Γ thr) (wσ AC Γ (σ)) 5 30 0 [(0, .ref (Γ.ad 0)), (1, .int (x1)), (2, .int (x2)), (3, .int (x3))] []
  refine g_aload_n hX d_LR_found_0 rfl 0 rfl ?_
  refine g_iload_n hX d_LR_found_1 rfl 1 rfl ?_
  refine g_callV (i := 0) (k := 4) (n := 24) hX (c_LR_requireFactDay hl h) hdT_LR_requireFactDay hdO_LR_requireFactDay t_1 t_127 t_129 ts_LR_requireFactDay (lt_c (by decide)) rfl (lay_LR (AC := AC) (Γ := Γ)) rfl ⟨⟨by decide, by decide⟩, np_LR_requireFactDay⟩ ⟨Nat.le_of_ble_eq_true rfl, Nat.le_of_ble_eq_true rfl⟩ (Nat.le_of_ble_eq_true rfl) d_LR_found_2 rfl ?_ (fun _ _ z => z)
  rintro _ _ ⟨σ2, rfl, rfl, h⟩
  refine g_iload_n hX d_LR_found_5 rfl 3 rfl ?_
  refine g_callS (k := 3) (n := 18) hX (c_LR_requirePerson hl h) hdT_LR_requirePerson hdO_LR_requirePerson t_1 t_199 t_200 ⟨⟨by decide, by decide⟩, np_LR_requirePerson⟩ ⟨Nat.le_of_ble_eq_true rfl, Nat.le_of_ble_eq_true rfl⟩ (Nat.le_of_ble_eq_true rfl) d_LR_found_6 rfl ?_ (fun _ _ z => z)
  rintro _ _ ⟨σ4, rfl, rfl, h⟩
  refine g_iload_n hX d_LR_found_9 rfl 2 rfl ?_
  refine g_callS (k := 2) (n := 12) hX (c_LR_requireUnits hl h) hdT_LR_requireUnits hdO_LR_requireUnits t_1 t_203 t_204 ⟨⟨by decide, by decide⟩, np_LR_requireUnits⟩ ⟨Nat.le_of_ble_eq_true rfl, Nat.le_of_ble_eq_true rfl⟩ (Nat.le_of_ble_eq_true rfl) d_LR_found_10 rfl ?_ (fun _ _ z => z)
  rintro _ _ ⟨σ6, rfl, rfl, h⟩
  refine g_aload_n hX d_LR_found_13 rfl 0 rfl ?_
  refine g_callV (i := 0) (k := 1) (n := 6) hX (c_LR_requireFreeNumber hl h) hdT_LR_requireFreeNumber hdO_LR_requireFreeNumber t_1 t_208 t_210 ts_LR_requireFreeNumber (lt_c (by decide)) rfl (lay_LR (AC := AC) (Γ := Γ)) rfl ⟨⟨by decide, by decide⟩, np_LR_requireFreeNumber⟩ ⟨Nat.le_of_ble_eq_true rfl, Nat.le_of_ble_eq_true rfl⟩ (Nat.le_of_ble_eq_true rfl) d_LR_found_14 rfl ?_ (fun _ _ z => z)
  rintro _ _ ⟨σ8, rfl, rfl, h⟩
  refine g_aload_n hX d_LR_found_17 rfl 0 rfl ?_
  refine g_iload_n hX d_LR_found_18 rfl 1 rfl ?_
  refine g_new (k := 0) (n := 0) (ci := 2) (fs := [.int 0, .int 0, .int 0, .int 0, .int 0, .int 0]) hX rfl in_Fo ty_Fo t_228 t_229 t_10 def_Fo d_LR_found_19 (fun qa => ?_)
  rw [deed_w2]
  refine g_dup hX d_LR_found_22 rfl ?_
  refine g_iload_n hX d_LR_found_23 rfl 2 rfl ?_
  refine g_iload_n hX d_LR_found_24 rfl 3 rfl ?_
  have z1 := c_Fo_init (l := l) (D := D) (AC := AC) (lo := lo) (h qa)
  rw [deed_adN] at z1
  refine g_callI (k := 0) (n := 0) (a := qa) (As := [.int (x2), .int (x3)]) (rest := [.ref qa, .int (x1), .ref (Γ.ad 0)]) hX z1 hdT_Fo_init t_10 t_230 t_231 rfl ⟨⟨by decide, by decide⟩, np_Fo_init⟩ ⟨Nat.le_of_ble_eq_true rfl, Nat.le_of_ble_eq_true rfl⟩ (Nat.le_of_ble_eq_true rfl) d_LR_found_25 rfl ?_ (fun _ _ z => by obtain ⟨_, _, zz⟩ := z; exact zz.elim)
  rintro _ _ ⟨σ1, rfl, rfl, h⟩
  have z2 := c_LR_file (l := l) (D := D) (AC := AC) (lo := lo) h
  rw [deed_adN, deed_ad (i := 0) (by omega)] at z2
  refine g_callV (i := 0) (k := 0) (n := 0) (a := Γ.ad 0) (As := [.int (x1), .ref qa]) (rest := []) hX z2 hdT_LR_file hdO_LR_file t_1 t_263 t_265 ts_LR_file (lt_c (by decide)) (deed_ad (ci := 2) (by omega)) (lay_LR (AC := AC) (Γ := (Γ.deed 2 qa))) rfl ⟨⟨by decide, by decide⟩, np_LR_file⟩ ⟨Nat.le_of_ble_eq_true rfl, Nat.le_of_ble_eq_true rfl⟩ (Nat.le_of_ble_eq_true rfl) d_LR_found_28 rfl ?_ (fun _ _ z => by obtain ⟨_, _, zz⟩ := z; exact zz.elim)
  rintro _ _ ⟨v2, σ2, rfl, rfl, h⟩
  exact g_iret hX rfl d_LR_found_31 ⟨_, _, _, rfl, rfl, fun i hi => deed_ad (by omega), h⟩

def wp_LR_sell (Γ : Ev) (x1 : Int32) (x2 : Int32) (x3 : Int32) (x4 : Int32) (x5 : Int64) (σ : St) (post : Int32 → Ev → St → Prop) (thr : String → St → Prop) : Prop := wp_LR_requireFactDay Γ (x1) (σ) (fun σ2 => wp_LR_requireParcel Γ (x2) (σ2) (fun σ4 => wp_LR_requirePerson Γ (x3) (σ4) (fun σ6 => wp_LR_requirePerson Γ (x4) (σ6) (fun σ8 => wp_LR_requireDifferent Γ (x3) (x4) (σ8) (fun σ10 => wp_LR_requireFraction Γ (x5) (σ10) (fun σ12 => wp_LR_requireFreeNumber Γ  (σ12) (fun σ14 => (∀ qa, wp_Se_init (Γ.deed 3 qa) Γ.nd (x2) (x3) (x4) (x5) (St.deed (σ14) Γ.nd) (fun σ1 => wp_LR_file (Γ.deed 3 qa) x1 Γ.nd σ1 (fun v2 σ2 => post v2 (Γ.deed 3 qa) σ2) (fun _ _ => False)) (fun _ _ => False))) thr) thr) thr) thr) thr) thr) thr
abbrev rm_LR_sell : Room := { frames := 7, cells := 8, slots := 50, locals := 156 }
set_option maxRecDepth 100000 in
set_option maxHeartbeats 4000000 in
theorem c_LR_sell {l : Launch} {D : va_G} {AC : Nat → ClassId} {lo : Nat} {Γ : Ev} {x1 : Int32} {x2 : Int32} {x3 : Int32} {x4 : Int32} {x5 : Int64} {σ : St} {post : Int32 → Ev → St → Prop} {thr : String → St → Prop} (hl : l.flags = pinnedFlags ++ [noTraceFlag]) (h : wp_LR_sell Γ x1 x2 x3 x4 x5 σ post thr) : Ct l y_LR_sell hd_LR_sell rm_LR_sell D AC lo [.ref (Γ.ad 0), .int (x1), .int (x2), .int (x3), .int (x4), .long (x5)] (wσ AC Γ σ) (pIA AC Γ post) (tX AC Γ thr) := by
  refine Ct.of (by decide) (Nat.le_of_ble_eq_true rfl) ?_
  intro p e s m args below meth c hadm hX
  unfold wp_LR_sell at h
  show G p l e rm_LR_sell s m args below meth c 7 D lo (pIA AC Γ post) (tX AC Γ thr) (wσ AC Γ (σ)) 8 50 0 [(0, .ref (Γ.ad 0)), (1, .int (x1)), (2, .int (x2)), (3, .int (x3)), (4, .int (x4)), (5, .long (x5))] []
  refine g_aload_n hX d_LR_sell_0 rfl 0 rfl ?_
  refine g_iload_n hX d_LR_sell_1 rfl 1 rfl ?_
  refine g_callV (i := 0) (k := 7) (n := 44) hX (c_LR_requireFactDay hl h) hdT_LR_requireFactDay hdO_LR_requireFactDay t_1 t_127 t_129 ts_LR_requireFactDay (lt_c (by decide)) rfl (lay_LR (AC := AC) (Γ := Γ)) rfl ⟨⟨by decide, by decide⟩, np_LR_requireFactDay⟩ ⟨Nat.le_of_ble_eq_true rfl, Nat.le_of_ble_eq_true rfl⟩ (Nat.le_of_ble_eq_true rfl) d_LR_sell_2 rfl ?_ (fun _ _ z => z)
  rintro _ _ ⟨σ2, rfl, rfl, h⟩
  refine g_iload_n hX d_LR_sell_5 rfl 2 rfl ?_
  refine g_callS (k := 6) (n := 38) hX (c_LR_requireParcel hl h) hdT_LR_requireParcel hdO_LR_requireParcel t_1 t_431 t_432 ⟨⟨by decide, by decide⟩, np_LR_requireParcel⟩ ⟨Nat.le_of_ble_eq_true rfl, Nat.le_of_ble_eq_true rfl⟩ (Nat.le_of_ble_eq_true rfl) d_LR_sell_6 rfl ?_ (fun _ _ z => z)
  rintro _ _ ⟨σ4, rfl, rfl, h⟩
  refine g_iload_n hX d_LR_sell_9 rfl 3 rfl ?_
  refine g_callS (k := 5) (n := 32) hX (c_LR_requirePerson hl h) hdT_LR_requirePerson hdO_LR_requirePerson t_1 t_199 t_200 ⟨⟨by decide, by decide⟩, np_LR_requirePerson⟩ ⟨Nat.le_of_ble_eq_true rfl, Nat.le_of_ble_eq_true rfl⟩ (Nat.le_of_ble_eq_true rfl) d_LR_sell_10 rfl ?_ (fun _ _ z => z)
  rintro _ _ ⟨σ6, rfl, rfl, h⟩
  refine g_iload hX d_LR_sell_13 4 rfl ?_
  refine g_callS (k := 4) (n := 26) hX (c_LR_requirePerson hl h) hdT_LR_requirePerson hdO_LR_requirePerson t_1 t_199 t_200 ⟨⟨by decide, by decide⟩, np_LR_requirePerson⟩ ⟨Nat.le_of_ble_eq_true rfl, Nat.le_of_ble_eq_true rfl⟩ (Nat.le_of_ble_eq_true rfl) d_LR_sell_15 rfl ?_ (fun _ _ z => z)
  rintro _ _ ⟨σ8, rfl, rfl, h⟩
  refine g_iload_n hX d_LR_sell_18 rfl 3 rfl ?_
  refine g_iload hX d_LR_sell_19 4 rfl ?_
  refine g_callS (k := 3) (n := 20) hX (c_LR_requireDifferent hl h) hdT_LR_requireDifferent hdO_LR_requireDifferent t_1 t_435 t_436 ⟨⟨by decide, by decide⟩, np_LR_requireDifferent⟩ ⟨Nat.le_of_ble_eq_true rfl, Nat.le_of_ble_eq_true rfl⟩ (Nat.le_of_ble_eq_true rfl) d_LR_sell_21 rfl ?_ (fun _ _ z => z)
  rintro _ _ ⟨σ10, rfl, rfl, h⟩
  refine g_lload hX d_LR_sell_24 5 rfl ?_
  refine g_callS (k := 2) (n := 14) hX (c_LR_requireFraction hl h) hdT_LR_requireFraction hdO_LR_requireFraction t_1 t_439 t_440 ⟨⟨by decide, by decide⟩, np_LR_requireFraction⟩ ⟨Nat.le_of_ble_eq_true rfl, Nat.le_of_ble_eq_true rfl⟩ (Nat.le_of_ble_eq_true rfl) d_LR_sell_26 rfl ?_ (fun _ _ z => z)
  rintro _ _ ⟨σ12, rfl, rfl, h⟩
  refine g_aload_n hX d_LR_sell_29 rfl 0 rfl ?_
  refine g_callV (i := 0) (k := 1) (n := 8) hX (c_LR_requireFreeNumber hl h) hdT_LR_requireFreeNumber hdO_LR_requireFreeNumber t_1 t_208 t_210 ts_LR_requireFreeNumber (lt_c (by decide)) rfl (lay_LR (AC := AC) (Γ := Γ)) rfl ⟨⟨by decide, by decide⟩, np_LR_requireFreeNumber⟩ ⟨Nat.le_of_ble_eq_true rfl, Nat.le_of_ble_eq_true rfl⟩ (Nat.le_of_ble_eq_true rfl) d_LR_sell_30 rfl ?_ (fun _ _ z => z)
  rintro _ _ ⟨σ14, rfl, rfl, h⟩
  refine g_aload_n hX d_LR_sell_33 rfl 0 rfl ?_
  refine g_iload_n hX d_LR_sell_34 rfl 1 rfl ?_
  refine g_new (k := 0) (n := 0) (ci := 3) (fs := [.int 0, .int 0, .int 0, .int 0, .int 0, .int 0, .int 0, .long 0]) hX rfl in_Se ty_Se t_444 t_445 t_14 def_Se d_LR_sell_35 (fun qa => ?_)
  rw [deed_w3]
  refine g_dup hX d_LR_sell_38 rfl ?_
  refine g_iload_n hX d_LR_sell_39 rfl 2 rfl ?_
  refine g_iload_n hX d_LR_sell_40 rfl 3 rfl ?_
  refine g_iload hX d_LR_sell_41 4 rfl ?_
  refine g_lload hX d_LR_sell_43 5 rfl ?_
  have z1 := c_Se_init (l := l) (D := D) (AC := AC) (lo := lo) (h qa)
  rw [deed_adN] at z1
  refine g_callI (k := 0) (n := 0) (a := qa) (As := [.int (x2), .int (x3), .int (x4), .long (x5)]) (rest := [.ref qa, .int (x1), .ref (Γ.ad 0)]) hX z1 hdT_Se_init t_14 t_446 t_447 rfl ⟨⟨by decide, by decide⟩, np_Se_init⟩ ⟨Nat.le_of_ble_eq_true rfl, Nat.le_of_ble_eq_true rfl⟩ (Nat.le_of_ble_eq_true rfl) d_LR_sell_45 rfl ?_ (fun _ _ z => by obtain ⟨_, _, zz⟩ := z; exact zz.elim)
  rintro _ _ ⟨σ1, rfl, rfl, h⟩
  have z2 := c_LR_file (l := l) (D := D) (AC := AC) (lo := lo) h
  rw [deed_adN, deed_ad (i := 0) (by omega)] at z2
  refine g_callV (i := 0) (k := 0) (n := 0) (a := Γ.ad 0) (As := [.int (x1), .ref qa]) (rest := []) hX z2 hdT_LR_file hdO_LR_file t_1 t_263 t_265 ts_LR_file (lt_c (by decide)) (deed_ad (ci := 3) (by omega)) (lay_LR (AC := AC) (Γ := (Γ.deed 3 qa))) rfl ⟨⟨by decide, by decide⟩, np_LR_file⟩ ⟨Nat.le_of_ble_eq_true rfl, Nat.le_of_ble_eq_true rfl⟩ (Nat.le_of_ble_eq_true rfl) d_LR_sell_48 rfl ?_ (fun _ _ z => by obtain ⟨_, _, zz⟩ := z; exact zz.elim)
  rintro _ _ ⟨v2, σ2, rfl, rfl, h⟩
  exact g_iret hX rfl d_LR_sell_51 ⟨_, _, _, rfl, rfl, fun i hi => deed_ad (by omega), h⟩

def wp_LR_pledge (Γ : Ev) (x1 : Int32) (x2 : Int32) (x3 : Int32) (x4 : Int32) (σ : St) (post : Int32 → Ev → St → Prop) (thr : String → St → Prop) : Prop := wp_LR_requireFactDay Γ (x1) (σ) (fun σ2 => wp_LR_requireParcel Γ (x2) (σ2) (fun σ4 => wp_LR_requirePerson Γ (x3) (σ4) (fun σ6 => wp_LR_requireUnits Γ (x4) (σ6) (fun σ8 => wp_LR_requireFreeNumber Γ  (σ8) (fun σ10 => (∀ qa, wp_Pl_init (Γ.deed 4 qa) Γ.nd (x2) (x3) (x4) (St.deed (σ10) Γ.nd) (fun σ1 => wp_LR_file (Γ.deed 4 qa) x1 Γ.nd σ1 (fun v2 σ2 => post v2 (Γ.deed 4 qa) σ2) (fun _ _ => False)) (fun _ _ => False))) thr) thr) thr) thr) thr
abbrev rm_LR_pledge : Room := { frames := 7, cells := 6, slots := 37, locals := 156 }
set_option maxRecDepth 100000 in
set_option maxHeartbeats 4000000 in
theorem c_LR_pledge {l : Launch} {D : va_G} {AC : Nat → ClassId} {lo : Nat} {Γ : Ev} {x1 : Int32} {x2 : Int32} {x3 : Int32} {x4 : Int32} {σ : St} {post : Int32 → Ev → St → Prop} {thr : String → St → Prop} (hl : l.flags = pinnedFlags ++ [noTraceFlag]) (h : wp_LR_pledge Γ x1 x2 x3 x4 σ post thr) : Ct l y_LR_pledge hd_LR_pledge rm_LR_pledge D AC lo [.ref (Γ.ad 0), .int (x1), .int (x2), .int (x3), .int (x4)] (wσ AC Γ σ) (pIA AC Γ post) (tX AC Γ thr) := by
  refine Ct.of (by decide) (Nat.le_of_ble_eq_true rfl) ?_
  intro p e s m args below meth c hadm hX
  unfold wp_LR_pledge at h
  show G p l e rm_LR_pledge s m args below meth c 5 D lo (pIA AC Γ post) (tX AC Γ thr) (wσ AC Γ (σ)) 6 37 0 [(0, .ref (Γ.ad 0)), (1, .int (x1)), (2, .int (x2)), (3, .int (x3)), (4, .int (x4))] []
  refine g_aload_n hX d_LR_pledge_0 rfl 0 rfl ?_
  refine g_iload_n hX d_LR_pledge_1 rfl 1 rfl ?_
  refine g_callV (i := 0) (k := 5) (n := 31) hX (c_LR_requireFactDay hl h) hdT_LR_requireFactDay hdO_LR_requireFactDay t_1 t_127 t_129 ts_LR_requireFactDay (lt_c (by decide)) rfl (lay_LR (AC := AC) (Γ := Γ)) rfl ⟨⟨by decide, by decide⟩, np_LR_requireFactDay⟩ ⟨Nat.le_of_ble_eq_true rfl, Nat.le_of_ble_eq_true rfl⟩ (Nat.le_of_ble_eq_true rfl) d_LR_pledge_2 rfl ?_ (fun _ _ z => z)
  rintro _ _ ⟨σ2, rfl, rfl, h⟩
  refine g_iload_n hX d_LR_pledge_5 rfl 2 rfl ?_
  refine g_callS (k := 4) (n := 25) hX (c_LR_requireParcel hl h) hdT_LR_requireParcel hdO_LR_requireParcel t_1 t_431 t_432 ⟨⟨by decide, by decide⟩, np_LR_requireParcel⟩ ⟨Nat.le_of_ble_eq_true rfl, Nat.le_of_ble_eq_true rfl⟩ (Nat.le_of_ble_eq_true rfl) d_LR_pledge_6 rfl ?_ (fun _ _ z => z)
  rintro _ _ ⟨σ4, rfl, rfl, h⟩
  refine g_iload_n hX d_LR_pledge_9 rfl 3 rfl ?_
  refine g_callS (k := 3) (n := 19) hX (c_LR_requirePerson hl h) hdT_LR_requirePerson hdO_LR_requirePerson t_1 t_199 t_200 ⟨⟨by decide, by decide⟩, np_LR_requirePerson⟩ ⟨Nat.le_of_ble_eq_true rfl, Nat.le_of_ble_eq_true rfl⟩ (Nat.le_of_ble_eq_true rfl) d_LR_pledge_10 rfl ?_ (fun _ _ z => z)
  rintro _ _ ⟨σ6, rfl, rfl, h⟩
  refine g_iload hX d_LR_pledge_13 4 rfl ?_
  refine g_callS (k := 2) (n := 13) hX (c_LR_requireUnits hl h) hdT_LR_requireUnits hdO_LR_requireUnits t_1 t_203 t_204 ⟨⟨by decide, by decide⟩, np_LR_requireUnits⟩ ⟨Nat.le_of_ble_eq_true rfl, Nat.le_of_ble_eq_true rfl⟩ (Nat.le_of_ble_eq_true rfl) d_LR_pledge_15 rfl ?_ (fun _ _ z => z)
  rintro _ _ ⟨σ8, rfl, rfl, h⟩
  refine g_aload_n hX d_LR_pledge_18 rfl 0 rfl ?_
  refine g_callV (i := 0) (k := 1) (n := 7) hX (c_LR_requireFreeNumber hl h) hdT_LR_requireFreeNumber hdO_LR_requireFreeNumber t_1 t_208 t_210 ts_LR_requireFreeNumber (lt_c (by decide)) rfl (lay_LR (AC := AC) (Γ := Γ)) rfl ⟨⟨by decide, by decide⟩, np_LR_requireFreeNumber⟩ ⟨Nat.le_of_ble_eq_true rfl, Nat.le_of_ble_eq_true rfl⟩ (Nat.le_of_ble_eq_true rfl) d_LR_pledge_19 rfl ?_ (fun _ _ z => z)
  rintro _ _ ⟨σ10, rfl, rfl, h⟩
  refine g_aload_n hX d_LR_pledge_22 rfl 0 rfl ?_
  refine g_iload_n hX d_LR_pledge_23 rfl 1 rfl ?_
  refine g_new (k := 0) (n := 0) (ci := 4) (fs := [.int 0, .int 0, .int 0, .int 0, .int 0, .int 0, .int 0]) hX rfl in_Pl ty_Pl t_474 t_475 t_15 def_Pl d_LR_pledge_24 (fun qa => ?_)
  rw [deed_w4]
  refine g_dup hX d_LR_pledge_27 rfl ?_
  refine g_iload_n hX d_LR_pledge_28 rfl 2 rfl ?_
  refine g_iload_n hX d_LR_pledge_29 rfl 3 rfl ?_
  refine g_iload hX d_LR_pledge_30 4 rfl ?_
  have z1 := c_Pl_init (l := l) (D := D) (AC := AC) (lo := lo) (h qa)
  rw [deed_adN] at z1
  refine g_callI (k := 0) (n := 0) (a := qa) (As := [.int (x2), .int (x3), .int (x4)]) (rest := [.ref qa, .int (x1), .ref (Γ.ad 0)]) hX z1 hdT_Pl_init t_15 t_476 t_477 rfl ⟨⟨by decide, by decide⟩, np_Pl_init⟩ ⟨Nat.le_of_ble_eq_true rfl, Nat.le_of_ble_eq_true rfl⟩ (Nat.le_of_ble_eq_true rfl) d_LR_pledge_32 rfl ?_ (fun _ _ z => by obtain ⟨_, _, zz⟩ := z; exact zz.elim)
  rintro _ _ ⟨σ1, rfl, rfl, h⟩
  have z2 := c_LR_file (l := l) (D := D) (AC := AC) (lo := lo) h
  rw [deed_adN, deed_ad (i := 0) (by omega)] at z2
  refine g_callV (i := 0) (k := 0) (n := 0) (a := Γ.ad 0) (As := [.int (x1), .ref qa]) (rest := []) hX z2 hdT_LR_file hdO_LR_file t_1 t_263 t_265 ts_LR_file (lt_c (by decide)) (deed_ad (ci := 4) (by omega)) (lay_LR (AC := AC) (Γ := (Γ.deed 4 qa))) rfl ⟨⟨by decide, by decide⟩, np_LR_file⟩ ⟨Nat.le_of_ble_eq_true rfl, Nat.le_of_ble_eq_true rfl⟩ (Nat.le_of_ble_eq_true rfl) d_LR_pledge_35 rfl ?_ (fun _ _ z => by obtain ⟨_, _, zz⟩ := z; exact zz.elim)
  rintro _ _ ⟨v2, σ2, rfl, rfl, h⟩
  exact g_iret hX rfl d_LR_pledge_38 ⟨_, _, _, rfl, rfl, fun i hi => deed_ad (by omega), h⟩

def wp_LR_rerank (Γ : Ev) (x1 : Int32) (x2 : Int32) (x3 : Int32) (x4 : Int32) (x5 : Int32) (σ : St) (post : Int32 → Ev → St → Prop) (thr : String → St → Prop) : Prop := wp_LR_requireFactDay Γ (x1) (σ) (fun σ2 => wp_LR_requireParcel Γ (x2) (σ2) (fun σ4 => wp_LR_requireRank Γ (x3) (σ4) (fun σ6 => wp_LR_requireRank Γ (x4) (σ6) (fun σ8 => wp_LR_requireDifferent Γ (x3) (x4) (σ8) (fun σ10 => wp_LR_requireFreeNumber Γ  (σ10) (fun σ12 => (∀ qa, wp_Re_init (Γ.deed 5 qa) Γ.nd (x2) (x3) (x4) (x5) (St.deed (σ12) Γ.nd) (fun σ1 => wp_LR_file (Γ.deed 5 qa) x1 Γ.nd σ1 (fun v2 σ2 => post v2 (Γ.deed 5 qa) σ2) (fun _ _ => False)) (fun _ _ => False))) thr) thr) thr) thr) thr) thr
abbrev rm_LR_rerank : Room := { frames := 7, cells := 7, slots := 44, locals := 156 }
set_option maxRecDepth 100000 in
set_option maxHeartbeats 4000000 in
theorem c_LR_rerank {l : Launch} {D : va_G} {AC : Nat → ClassId} {lo : Nat} {Γ : Ev} {x1 : Int32} {x2 : Int32} {x3 : Int32} {x4 : Int32} {x5 : Int32} {σ : St} {post : Int32 → Ev → St → Prop} {thr : String → St → Prop} (hl : l.flags = pinnedFlags ++ [noTraceFlag]) (h : wp_LR_rerank Γ x1 x2 x3 x4 x5 σ post thr) : Ct l y_LR_rerank hd_LR_rerank rm_LR_rerank D AC lo [.ref (Γ.ad 0), .int (x1), .int (x2), .int (x3), .int (x4), .int (x5)] (wσ AC Γ σ) (pIA AC Γ post) (tX AC Γ thr) := by
  refine Ct.of (by decide) (Nat.le_of_ble_eq_true rfl) ?_
  intro p e s m args below meth c hadm hX
  unfold wp_LR_rerank at h
  show G p l e rm_LR_rerank s m args below meth c 6 D lo (pIA AC Γ post) (tX AC Γ thr) (wσ AC Γ (σ)) 7 44 0 [(0, .ref (Γ.ad 0)), (1, .int (x1)), (2, .int (x2)), (3, .int (x3)), (4, .int (x4)), (5, .int (x5))] []
  refine g_aload_n hX d_LR_rerank_0 rfl 0 rfl ?_
  refine g_iload_n hX d_LR_rerank_1 rfl 1 rfl ?_
  refine g_callV (i := 0) (k := 6) (n := 38) hX (c_LR_requireFactDay hl h) hdT_LR_requireFactDay hdO_LR_requireFactDay t_1 t_127 t_129 ts_LR_requireFactDay (lt_c (by decide)) rfl (lay_LR (AC := AC) (Γ := Γ)) rfl ⟨⟨by decide, by decide⟩, np_LR_requireFactDay⟩ ⟨Nat.le_of_ble_eq_true rfl, Nat.le_of_ble_eq_true rfl⟩ (Nat.le_of_ble_eq_true rfl) d_LR_rerank_2 rfl ?_ (fun _ _ z => z)
  rintro _ _ ⟨σ2, rfl, rfl, h⟩
  refine g_iload_n hX d_LR_rerank_5 rfl 2 rfl ?_
  refine g_callS (k := 5) (n := 32) hX (c_LR_requireParcel hl h) hdT_LR_requireParcel hdO_LR_requireParcel t_1 t_431 t_432 ⟨⟨by decide, by decide⟩, np_LR_requireParcel⟩ ⟨Nat.le_of_ble_eq_true rfl, Nat.le_of_ble_eq_true rfl⟩ (Nat.le_of_ble_eq_true rfl) d_LR_rerank_6 rfl ?_ (fun _ _ z => z)
  rintro _ _ ⟨σ4, rfl, rfl, h⟩
  refine g_iload_n hX d_LR_rerank_9 rfl 3 rfl ?_
  refine g_callS (k := 4) (n := 26) hX (c_LR_requireRank hl h) hdT_LR_requireRank hdO_LR_requireRank t_1 t_501 t_502 ⟨⟨by decide, by decide⟩, np_LR_requireRank⟩ ⟨Nat.le_of_ble_eq_true rfl, Nat.le_of_ble_eq_true rfl⟩ (Nat.le_of_ble_eq_true rfl) d_LR_rerank_10 rfl ?_ (fun _ _ z => z)
  rintro _ _ ⟨σ6, rfl, rfl, h⟩
  refine g_iload hX d_LR_rerank_13 4 rfl ?_
  refine g_callS (k := 3) (n := 20) hX (c_LR_requireRank hl h) hdT_LR_requireRank hdO_LR_requireRank t_1 t_501 t_502 ⟨⟨by decide, by decide⟩, np_LR_requireRank⟩ ⟨Nat.le_of_ble_eq_true rfl, Nat.le_of_ble_eq_true rfl⟩ (Nat.le_of_ble_eq_true rfl) d_LR_rerank_15 rfl ?_ (fun _ _ z => z)
  rintro _ _ ⟨σ8, rfl, rfl, h⟩
  refine g_iload_n hX d_LR_rerank_18 rfl 3 rfl ?_
  refine g_iload hX d_LR_rerank_19 4 rfl ?_
  refine g_callS (k := 2) (n := 14) hX (c_LR_requireDifferent hl h) hdT_LR_requireDifferent hdO_LR_requireDifferent t_1 t_435 t_436 ⟨⟨by decide, by decide⟩, np_LR_requireDifferent⟩ ⟨Nat.le_of_ble_eq_true rfl, Nat.le_of_ble_eq_true rfl⟩ (Nat.le_of_ble_eq_true rfl) d_LR_rerank_21 rfl ?_ (fun _ _ z => z)
  rintro _ _ ⟨σ10, rfl, rfl, h⟩
  refine g_aload_n hX d_LR_rerank_24 rfl 0 rfl ?_
  refine g_callV (i := 0) (k := 1) (n := 8) hX (c_LR_requireFreeNumber hl h) hdT_LR_requireFreeNumber hdO_LR_requireFreeNumber t_1 t_208 t_210 ts_LR_requireFreeNumber (lt_c (by decide)) rfl (lay_LR (AC := AC) (Γ := Γ)) rfl ⟨⟨by decide, by decide⟩, np_LR_requireFreeNumber⟩ ⟨Nat.le_of_ble_eq_true rfl, Nat.le_of_ble_eq_true rfl⟩ (Nat.le_of_ble_eq_true rfl) d_LR_rerank_25 rfl ?_ (fun _ _ z => z)
  rintro _ _ ⟨σ12, rfl, rfl, h⟩
  refine g_aload_n hX d_LR_rerank_28 rfl 0 rfl ?_
  refine g_iload_n hX d_LR_rerank_29 rfl 1 rfl ?_
  refine g_new (k := 0) (n := 0) (ci := 5) (fs := [.int 0, .int 0, .int 0, .int 0, .int 0, .int 0, .int 0, .int 0]) hX rfl in_Re ty_Re t_505 t_323 t_16 def_Re d_LR_rerank_30 (fun qa => ?_)
  rw [deed_w5]
  refine g_dup hX d_LR_rerank_33 rfl ?_
  refine g_iload_n hX d_LR_rerank_34 rfl 2 rfl ?_
  refine g_iload_n hX d_LR_rerank_35 rfl 3 rfl ?_
  refine g_iload hX d_LR_rerank_36 4 rfl ?_
  refine g_iload hX d_LR_rerank_38 5 rfl ?_
  have z1 := c_Re_init (l := l) (D := D) (AC := AC) (lo := lo) (h qa)
  rw [deed_adN] at z1
  refine g_callI (k := 0) (n := 0) (a := qa) (As := [.int (x2), .int (x3), .int (x4), .int (x5)]) (rest := [.ref qa, .int (x1), .ref (Γ.ad 0)]) hX z1 hdT_Re_init t_16 t_506 t_507 rfl ⟨⟨by decide, by decide⟩, np_Re_init⟩ ⟨Nat.le_of_ble_eq_true rfl, Nat.le_of_ble_eq_true rfl⟩ (Nat.le_of_ble_eq_true rfl) d_LR_rerank_40 rfl ?_ (fun _ _ z => by obtain ⟨_, _, zz⟩ := z; exact zz.elim)
  rintro _ _ ⟨σ1, rfl, rfl, h⟩
  have z2 := c_LR_file (l := l) (D := D) (AC := AC) (lo := lo) h
  rw [deed_adN, deed_ad (i := 0) (by omega)] at z2
  refine g_callV (i := 0) (k := 0) (n := 0) (a := Γ.ad 0) (As := [.int (x1), .ref qa]) (rest := []) hX z2 hdT_LR_file hdO_LR_file t_1 t_263 t_265 ts_LR_file (lt_c (by decide)) (deed_ad (ci := 5) (by omega)) (lay_LR (AC := AC) (Γ := (Γ.deed 5 qa))) rfl ⟨⟨by decide, by decide⟩, np_LR_file⟩ ⟨Nat.le_of_ble_eq_true rfl, Nat.le_of_ble_eq_true rfl⟩ (Nat.le_of_ble_eq_true rfl) d_LR_rerank_43 rfl ?_ (fun _ _ z => by obtain ⟨_, _, zz⟩ := z; exact zz.elim)
  rintro _ _ ⟨v2, σ2, rfl, rfl, h⟩
  exact g_iret hX rfl d_LR_rerank_46 ⟨_, _, _, rfl, rfl, fun i hi => deed_ad (by omega), h⟩

def wp_LR_release (Γ : Ev) (x1 : Int32) (x2 : Int32) (x3 : Int32) (σ : St) (post : Int32 → Ev → St → Prop) (thr : String → St → Prop) : Prop := wp_LR_requireFactDay Γ (x1) (σ) (fun σ2 => wp_LR_requireParcel Γ (x2) (σ2) (fun σ4 => wp_LR_requireRank Γ (x3) (σ4) (fun σ6 => wp_LR_requireFreeNumber Γ  (σ6) (fun σ8 => (∀ qa, wp_Rl_init (Γ.deed 6 qa) Γ.nd (x2) (x3) (St.deed (σ8) Γ.nd) (fun σ1 => wp_LR_file (Γ.deed 6 qa) x1 Γ.nd σ1 (fun v2 σ2 => post v2 (Γ.deed 6 qa) σ2) (fun _ _ => False)) (fun _ _ => False))) thr) thr) thr) thr
abbrev rm_LR_release : Room := { frames := 7, cells := 5, slots := 30, locals := 156 }
set_option maxRecDepth 100000 in
set_option maxHeartbeats 4000000 in
theorem c_LR_release {l : Launch} {D : va_G} {AC : Nat → ClassId} {lo : Nat} {Γ : Ev} {x1 : Int32} {x2 : Int32} {x3 : Int32} {σ : St} {post : Int32 → Ev → St → Prop} {thr : String → St → Prop} (hl : l.flags = pinnedFlags ++ [noTraceFlag]) (h : wp_LR_release Γ x1 x2 x3 σ post thr) : Ct l y_LR_release hd_LR_release rm_LR_release D AC lo [.ref (Γ.ad 0), .int (x1), .int (x2), .int (x3)] (wσ AC Γ σ) (pIA AC Γ post) (tX AC Γ thr) := by
  refine Ct.of (by decide) (Nat.le_of_ble_eq_true rfl) ?_
  intro p e s m args below meth c hadm hX
  unfold wp_LR_release at h
  show G p l e rm_LR_release s m args below meth c 4 D lo (pIA AC Γ post) (tX AC Γ thr) (wσ AC Γ (σ)) 5 30 0 [(0, .ref (Γ.ad 0)), (1, .int (x1)), (2, .int (x2)), (3, .int (x3))] []
  refine g_aload_n hX d_LR_release_0 rfl 0 rfl ?_
  refine g_iload_n hX d_LR_release_1 rfl 1 rfl ?_
  refine g_callV (i := 0) (k := 4) (n := 24) hX (c_LR_requireFactDay hl h) hdT_LR_requireFactDay hdO_LR_requireFactDay t_1 t_127 t_129 ts_LR_requireFactDay (lt_c (by decide)) rfl (lay_LR (AC := AC) (Γ := Γ)) rfl ⟨⟨by decide, by decide⟩, np_LR_requireFactDay⟩ ⟨Nat.le_of_ble_eq_true rfl, Nat.le_of_ble_eq_true rfl⟩ (Nat.le_of_ble_eq_true rfl) d_LR_release_2 rfl ?_ (fun _ _ z => z)
  rintro _ _ ⟨σ2, rfl, rfl, h⟩
  refine g_iload_n hX d_LR_release_5 rfl 2 rfl ?_
  refine g_callS (k := 3) (n := 18) hX (c_LR_requireParcel hl h) hdT_LR_requireParcel hdO_LR_requireParcel t_1 t_431 t_432 ⟨⟨by decide, by decide⟩, np_LR_requireParcel⟩ ⟨Nat.le_of_ble_eq_true rfl, Nat.le_of_ble_eq_true rfl⟩ (Nat.le_of_ble_eq_true rfl) d_LR_release_6 rfl ?_ (fun _ _ z => z)
  rintro _ _ ⟨σ4, rfl, rfl, h⟩
  refine g_iload_n hX d_LR_release_9 rfl 3 rfl ?_
  refine g_callS (k := 2) (n := 12) hX (c_LR_requireRank hl h) hdT_LR_requireRank hdO_LR_requireRank t_1 t_501 t_502 ⟨⟨by decide, by decide⟩, np_LR_requireRank⟩ ⟨Nat.le_of_ble_eq_true rfl, Nat.le_of_ble_eq_true rfl⟩ (Nat.le_of_ble_eq_true rfl) d_LR_release_10 rfl ?_ (fun _ _ z => z)
  rintro _ _ ⟨σ6, rfl, rfl, h⟩
  refine g_aload_n hX d_LR_release_13 rfl 0 rfl ?_
  refine g_callV (i := 0) (k := 1) (n := 6) hX (c_LR_requireFreeNumber hl h) hdT_LR_requireFreeNumber hdO_LR_requireFreeNumber t_1 t_208 t_210 ts_LR_requireFreeNumber (lt_c (by decide)) rfl (lay_LR (AC := AC) (Γ := Γ)) rfl ⟨⟨by decide, by decide⟩, np_LR_requireFreeNumber⟩ ⟨Nat.le_of_ble_eq_true rfl, Nat.le_of_ble_eq_true rfl⟩ (Nat.le_of_ble_eq_true rfl) d_LR_release_14 rfl ?_ (fun _ _ z => z)
  rintro _ _ ⟨σ8, rfl, rfl, h⟩
  refine g_aload_n hX d_LR_release_17 rfl 0 rfl ?_
  refine g_iload_n hX d_LR_release_18 rfl 1 rfl ?_
  refine g_new (k := 0) (n := 0) (ci := 6) (fs := [.int 0, .int 0, .int 0, .int 0, .int 0, .int 0]) hX rfl in_Rl ty_Rl t_534 t_535 t_17 def_Rl d_LR_release_19 (fun qa => ?_)
  rw [deed_w6]
  refine g_dup hX d_LR_release_22 rfl ?_
  refine g_iload_n hX d_LR_release_23 rfl 2 rfl ?_
  refine g_iload_n hX d_LR_release_24 rfl 3 rfl ?_
  have z1 := c_Rl_init (l := l) (D := D) (AC := AC) (lo := lo) (h qa)
  rw [deed_adN] at z1
  refine g_callI (k := 0) (n := 0) (a := qa) (As := [.int (x2), .int (x3)]) (rest := [.ref qa, .int (x1), .ref (Γ.ad 0)]) hX z1 hdT_Rl_init t_17 t_536 t_537 rfl ⟨⟨by decide, by decide⟩, np_Rl_init⟩ ⟨Nat.le_of_ble_eq_true rfl, Nat.le_of_ble_eq_true rfl⟩ (Nat.le_of_ble_eq_true rfl) d_LR_release_25 rfl ?_ (fun _ _ z => by obtain ⟨_, _, zz⟩ := z; exact zz.elim)
  rintro _ _ ⟨σ1, rfl, rfl, h⟩
  have z2 := c_LR_file (l := l) (D := D) (AC := AC) (lo := lo) h
  rw [deed_adN, deed_ad (i := 0) (by omega)] at z2
  refine g_callV (i := 0) (k := 0) (n := 0) (a := Γ.ad 0) (As := [.int (x1), .ref qa]) (rest := []) hX z2 hdT_LR_file hdO_LR_file t_1 t_263 t_265 ts_LR_file (lt_c (by decide)) (deed_ad (ci := 6) (by omega)) (lay_LR (AC := AC) (Γ := (Γ.deed 6 qa))) rfl ⟨⟨by decide, by decide⟩, np_LR_file⟩ ⟨Nat.le_of_ble_eq_true rfl, Nat.le_of_ble_eq_true rfl⟩ (Nat.le_of_ble_eq_true rfl) d_LR_release_28 rfl ?_ (fun _ _ z => by obtain ⟨_, _, zz⟩ := z; exact zz.elim)
  rintro _ _ ⟨v2, σ2, rfl, rfl, h⟩
  exact g_iret hX rfl d_LR_release_31 ⟨_, _, _, rfl, rfl, fun i hi => deed_ad (by omega), h⟩

def wp_LR_caution (Γ : Ev) (x1 : Int32) (x2 : Int32) (x3 : Int32) (σ : St) (post : Int32 → Ev → St → Prop) (thr : String → St → Prop) : Prop := wp_LR_requireFactDay Γ (x1) (σ) (fun σ2 => wp_LR_requireParcel Γ (x2) (σ2) (fun σ4 => wp_LR_requirePerson Γ (x3) (σ4) (fun σ6 => wp_LR_requireFreeNumber Γ  (σ6) (fun σ8 => (∀ qa, wp_Ca_init (Γ.deed 7 qa) Γ.nd (x2) (x3) (St.deed (σ8) Γ.nd) (fun σ1 => wp_LR_file (Γ.deed 7 qa) x1 Γ.nd σ1 (fun v2 σ2 => post v2 (Γ.deed 7 qa) σ2) (fun _ _ => False)) (fun _ _ => False))) thr) thr) thr) thr
abbrev rm_LR_caution : Room := { frames := 7, cells := 5, slots := 30, locals := 156 }
set_option maxRecDepth 100000 in
set_option maxHeartbeats 4000000 in
theorem c_LR_caution {l : Launch} {D : va_G} {AC : Nat → ClassId} {lo : Nat} {Γ : Ev} {x1 : Int32} {x2 : Int32} {x3 : Int32} {σ : St} {post : Int32 → Ev → St → Prop} {thr : String → St → Prop} (hl : l.flags = pinnedFlags ++ [noTraceFlag]) (h : wp_LR_caution Γ x1 x2 x3 σ post thr) : Ct l y_LR_caution hd_LR_caution rm_LR_caution D AC lo [.ref (Γ.ad 0), .int (x1), .int (x2), .int (x3)] (wσ AC Γ σ) (pIA AC Γ post) (tX AC Γ thr) := by
  refine Ct.of (by decide) (Nat.le_of_ble_eq_true rfl) ?_
  intro p e s m args below meth c hadm hX
  unfold wp_LR_caution at h
  show G p l e rm_LR_caution s m args below meth c 4 D lo (pIA AC Γ post) (tX AC Γ thr) (wσ AC Γ (σ)) 5 30 0 [(0, .ref (Γ.ad 0)), (1, .int (x1)), (2, .int (x2)), (3, .int (x3))] []
  refine g_aload_n hX d_LR_caution_0 rfl 0 rfl ?_
  refine g_iload_n hX d_LR_caution_1 rfl 1 rfl ?_
  refine g_callV (i := 0) (k := 4) (n := 24) hX (c_LR_requireFactDay hl h) hdT_LR_requireFactDay hdO_LR_requireFactDay t_1 t_127 t_129 ts_LR_requireFactDay (lt_c (by decide)) rfl (lay_LR (AC := AC) (Γ := Γ)) rfl ⟨⟨by decide, by decide⟩, np_LR_requireFactDay⟩ ⟨Nat.le_of_ble_eq_true rfl, Nat.le_of_ble_eq_true rfl⟩ (Nat.le_of_ble_eq_true rfl) d_LR_caution_2 rfl ?_ (fun _ _ z => z)
  rintro _ _ ⟨σ2, rfl, rfl, h⟩
  refine g_iload_n hX d_LR_caution_5 rfl 2 rfl ?_
  refine g_callS (k := 3) (n := 18) hX (c_LR_requireParcel hl h) hdT_LR_requireParcel hdO_LR_requireParcel t_1 t_431 t_432 ⟨⟨by decide, by decide⟩, np_LR_requireParcel⟩ ⟨Nat.le_of_ble_eq_true rfl, Nat.le_of_ble_eq_true rfl⟩ (Nat.le_of_ble_eq_true rfl) d_LR_caution_6 rfl ?_ (fun _ _ z => z)
  rintro _ _ ⟨σ4, rfl, rfl, h⟩
  refine g_iload_n hX d_LR_caution_9 rfl 3 rfl ?_
  refine g_callS (k := 2) (n := 12) hX (c_LR_requirePerson hl h) hdT_LR_requirePerson hdO_LR_requirePerson t_1 t_199 t_200 ⟨⟨by decide, by decide⟩, np_LR_requirePerson⟩ ⟨Nat.le_of_ble_eq_true rfl, Nat.le_of_ble_eq_true rfl⟩ (Nat.le_of_ble_eq_true rfl) d_LR_caution_10 rfl ?_ (fun _ _ z => z)
  rintro _ _ ⟨σ6, rfl, rfl, h⟩
  refine g_aload_n hX d_LR_caution_13 rfl 0 rfl ?_
  refine g_callV (i := 0) (k := 1) (n := 6) hX (c_LR_requireFreeNumber hl h) hdT_LR_requireFreeNumber hdO_LR_requireFreeNumber t_1 t_208 t_210 ts_LR_requireFreeNumber (lt_c (by decide)) rfl (lay_LR (AC := AC) (Γ := Γ)) rfl ⟨⟨by decide, by decide⟩, np_LR_requireFreeNumber⟩ ⟨Nat.le_of_ble_eq_true rfl, Nat.le_of_ble_eq_true rfl⟩ (Nat.le_of_ble_eq_true rfl) d_LR_caution_14 rfl ?_ (fun _ _ z => z)
  rintro _ _ ⟨σ8, rfl, rfl, h⟩
  refine g_aload_n hX d_LR_caution_17 rfl 0 rfl ?_
  refine g_iload_n hX d_LR_caution_18 rfl 1 rfl ?_
  refine g_new (k := 0) (n := 0) (ci := 7) (fs := [.int 0, .int 0, .int 0, .int 0, .int 0, .int 0]) hX rfl in_Ca ty_Ca t_558 t_559 t_18 def_Ca d_LR_caution_19 (fun qa => ?_)
  rw [deed_w7]
  refine g_dup hX d_LR_caution_22 rfl ?_
  refine g_iload_n hX d_LR_caution_23 rfl 2 rfl ?_
  refine g_iload_n hX d_LR_caution_24 rfl 3 rfl ?_
  have z1 := c_Ca_init (l := l) (D := D) (AC := AC) (lo := lo) (h qa)
  rw [deed_adN] at z1
  refine g_callI (k := 0) (n := 0) (a := qa) (As := [.int (x2), .int (x3)]) (rest := [.ref qa, .int (x1), .ref (Γ.ad 0)]) hX z1 hdT_Ca_init t_18 t_560 t_561 rfl ⟨⟨by decide, by decide⟩, np_Ca_init⟩ ⟨Nat.le_of_ble_eq_true rfl, Nat.le_of_ble_eq_true rfl⟩ (Nat.le_of_ble_eq_true rfl) d_LR_caution_25 rfl ?_ (fun _ _ z => by obtain ⟨_, _, zz⟩ := z; exact zz.elim)
  rintro _ _ ⟨σ1, rfl, rfl, h⟩
  have z2 := c_LR_file (l := l) (D := D) (AC := AC) (lo := lo) h
  rw [deed_adN, deed_ad (i := 0) (by omega)] at z2
  refine g_callV (i := 0) (k := 0) (n := 0) (a := Γ.ad 0) (As := [.int (x1), .ref qa]) (rest := []) hX z2 hdT_LR_file hdO_LR_file t_1 t_263 t_265 ts_LR_file (lt_c (by decide)) (deed_ad (ci := 7) (by omega)) (lay_LR (AC := AC) (Γ := (Γ.deed 7 qa))) rfl ⟨⟨by decide, by decide⟩, np_LR_file⟩ ⟨Nat.le_of_ble_eq_true rfl, Nat.le_of_ble_eq_true rfl⟩ (Nat.le_of_ble_eq_true rfl) d_LR_caution_28 rfl ?_ (fun _ _ z => by obtain ⟨_, _, zz⟩ := z; exact zz.elim)
  rintro _ _ ⟨v2, σ2, rfl, rfl, h⟩
  exact g_iret hX rfl d_LR_caution_31 ⟨_, _, _, rfl, rfl, fun i hi => deed_ad (by omega), h⟩

def wp_LR_lift (Γ : Ev) (x1 : Int32) (x2 : Int32) (x3 : Int32) (σ : St) (post : Int32 → Ev → St → Prop) (thr : String → St → Prop) : Prop := wp_LR_requireFactDay Γ (x1) (σ) (fun σ2 => wp_LR_requireParcel Γ (x2) (σ2) (fun σ4 => wp_LR_requirePerson Γ (x3) (σ4) (fun σ6 => wp_LR_requireFreeNumber Γ  (σ6) (fun σ8 => (∀ qa, wp_Li_init (Γ.deed 8 qa) Γ.nd (x2) (x3) (St.deed (σ8) Γ.nd) (fun σ1 => wp_LR_file (Γ.deed 8 qa) x1 Γ.nd σ1 (fun v2 σ2 => post v2 (Γ.deed 8 qa) σ2) (fun _ _ => False)) (fun _ _ => False))) thr) thr) thr) thr
abbrev rm_LR_lift : Room := { frames := 7, cells := 5, slots := 30, locals := 156 }
set_option maxRecDepth 100000 in
set_option maxHeartbeats 4000000 in
theorem c_LR_lift {l : Launch} {D : va_G} {AC : Nat → ClassId} {lo : Nat} {Γ : Ev} {x1 : Int32} {x2 : Int32} {x3 : Int32} {σ : St} {post : Int32 → Ev → St → Prop} {thr : String → St → Prop} (hl : l.flags = pinnedFlags ++ [noTraceFlag]) (h : wp_LR_lift Γ x1 x2 x3 σ post thr) : Ct l y_LR_lift hd_LR_lift rm_LR_lift D AC lo [.ref (Γ.ad 0), .int (x1), .int (x2), .int (x3)] (wσ AC Γ σ) (pIA AC Γ post) (tX AC Γ thr) := by
  refine Ct.of (by decide) (Nat.le_of_ble_eq_true rfl) ?_
  intro p e s m args below meth c hadm hX
  unfold wp_LR_lift at h
  show G p l e rm_LR_lift s m args below meth c 4 D lo (pIA AC Γ post) (tX AC Γ thr) (wσ AC Γ (σ)) 5 30 0 [(0, .ref (Γ.ad 0)), (1, .int (x1)), (2, .int (x2)), (3, .int (x3))] []
  refine g_aload_n hX d_LR_lift_0 rfl 0 rfl ?_
  refine g_iload_n hX d_LR_lift_1 rfl 1 rfl ?_
  refine g_callV (i := 0) (k := 4) (n := 24) hX (c_LR_requireFactDay hl h) hdT_LR_requireFactDay hdO_LR_requireFactDay t_1 t_127 t_129 ts_LR_requireFactDay (lt_c (by decide)) rfl (lay_LR (AC := AC) (Γ := Γ)) rfl ⟨⟨by decide, by decide⟩, np_LR_requireFactDay⟩ ⟨Nat.le_of_ble_eq_true rfl, Nat.le_of_ble_eq_true rfl⟩ (Nat.le_of_ble_eq_true rfl) d_LR_lift_2 rfl ?_ (fun _ _ z => z)
  rintro _ _ ⟨σ2, rfl, rfl, h⟩
  refine g_iload_n hX d_LR_lift_5 rfl 2 rfl ?_
  refine g_callS (k := 3) (n := 18) hX (c_LR_requireParcel hl h) hdT_LR_requireParcel hdO_LR_requireParcel t_1 t_431 t_432 ⟨⟨by decide, by decide⟩, np_LR_requireParcel⟩ ⟨Nat.le_of_ble_eq_true rfl, Nat.le_of_ble_eq_true rfl⟩ (Nat.le_of_ble_eq_true rfl) d_LR_lift_6 rfl ?_ (fun _ _ z => z)
  rintro _ _ ⟨σ4, rfl, rfl, h⟩
  refine g_iload_n hX d_LR_lift_9 rfl 3 rfl ?_
  refine g_callS (k := 2) (n := 12) hX (c_LR_requirePerson hl h) hdT_LR_requirePerson hdO_LR_requirePerson t_1 t_199 t_200 ⟨⟨by decide, by decide⟩, np_LR_requirePerson⟩ ⟨Nat.le_of_ble_eq_true rfl, Nat.le_of_ble_eq_true rfl⟩ (Nat.le_of_ble_eq_true rfl) d_LR_lift_10 rfl ?_ (fun _ _ z => z)
  rintro _ _ ⟨σ6, rfl, rfl, h⟩
  refine g_aload_n hX d_LR_lift_13 rfl 0 rfl ?_
  refine g_callV (i := 0) (k := 1) (n := 6) hX (c_LR_requireFreeNumber hl h) hdT_LR_requireFreeNumber hdO_LR_requireFreeNumber t_1 t_208 t_210 ts_LR_requireFreeNumber (lt_c (by decide)) rfl (lay_LR (AC := AC) (Γ := Γ)) rfl ⟨⟨by decide, by decide⟩, np_LR_requireFreeNumber⟩ ⟨Nat.le_of_ble_eq_true rfl, Nat.le_of_ble_eq_true rfl⟩ (Nat.le_of_ble_eq_true rfl) d_LR_lift_14 rfl ?_ (fun _ _ z => z)
  rintro _ _ ⟨σ8, rfl, rfl, h⟩
  refine g_aload_n hX d_LR_lift_17 rfl 0 rfl ?_
  refine g_iload_n hX d_LR_lift_18 rfl 1 rfl ?_
  refine g_new (k := 0) (n := 0) (ci := 8) (fs := [.int 0, .int 0, .int 0, .int 0, .int 0, .int 0]) hX rfl in_Li ty_Li t_582 t_583 t_19 def_Li d_LR_lift_19 (fun qa => ?_)
  rw [deed_w8]
  refine g_dup hX d_LR_lift_22 rfl ?_
  refine g_iload_n hX d_LR_lift_23 rfl 2 rfl ?_
  refine g_iload_n hX d_LR_lift_24 rfl 3 rfl ?_
  have z1 := c_Li_init (l := l) (D := D) (AC := AC) (lo := lo) (h qa)
  rw [deed_adN] at z1
  refine g_callI (k := 0) (n := 0) (a := qa) (As := [.int (x2), .int (x3)]) (rest := [.ref qa, .int (x1), .ref (Γ.ad 0)]) hX z1 hdT_Li_init t_19 t_584 t_585 rfl ⟨⟨by decide, by decide⟩, np_Li_init⟩ ⟨Nat.le_of_ble_eq_true rfl, Nat.le_of_ble_eq_true rfl⟩ (Nat.le_of_ble_eq_true rfl) d_LR_lift_25 rfl ?_ (fun _ _ z => by obtain ⟨_, _, zz⟩ := z; exact zz.elim)
  rintro _ _ ⟨σ1, rfl, rfl, h⟩
  have z2 := c_LR_file (l := l) (D := D) (AC := AC) (lo := lo) h
  rw [deed_adN, deed_ad (i := 0) (by omega)] at z2
  refine g_callV (i := 0) (k := 0) (n := 0) (a := Γ.ad 0) (As := [.int (x1), .ref qa]) (rest := []) hX z2 hdT_LR_file hdO_LR_file t_1 t_263 t_265 ts_LR_file (lt_c (by decide)) (deed_ad (ci := 8) (by omega)) (lay_LR (AC := AC) (Γ := (Γ.deed 8 qa))) rfl ⟨⟨by decide, by decide⟩, np_LR_file⟩ ⟨Nat.le_of_ble_eq_true rfl, Nat.le_of_ble_eq_true rfl⟩ (Nat.le_of_ble_eq_true rfl) d_LR_lift_28 rfl ?_ (fun _ _ z => by obtain ⟨_, _, zz⟩ := z; exact zz.elim)
  rintro _ _ ⟨v2, σ2, rfl, rfl, h⟩
  exact g_iret hX rfl d_LR_lift_31 ⟨_, _, _, rfl, rfl, fun i hi => deed_ad (by omega), h⟩

def wp_LR_split (Γ : Ev) (x1 : Int32) (x2 : Int32) (x3 : Int32) (σ : St) (post : Int32 → Ev → St → Prop) (thr : String → St → Prop) : Prop := wp_LR_requireFactDay Γ (x1) (σ) (fun σ2 => wp_LR_requireParcel Γ (x2) (σ2) (fun σ4 => wp_LR_requireUnits Γ (x3) (σ4) (fun σ6 => wp_LR_requireFreeNumber Γ  (σ6) (fun σ8 => (∀ qa, wp_Sp_init (Γ.deed 9 qa) Γ.nd (x2) (x3) (St.deed (σ8) Γ.nd) (fun σ1 => wp_LR_file (Γ.deed 9 qa) x1 Γ.nd σ1 (fun v2 σ2 => post v2 (Γ.deed 9 qa) σ2) (fun _ _ => False)) (fun _ _ => False))) thr) thr) thr) thr
abbrev rm_LR_split : Room := { frames := 7, cells := 5, slots := 30, locals := 156 }
set_option maxRecDepth 100000 in
set_option maxHeartbeats 4000000 in
theorem c_LR_split {l : Launch} {D : va_G} {AC : Nat → ClassId} {lo : Nat} {Γ : Ev} {x1 : Int32} {x2 : Int32} {x3 : Int32} {σ : St} {post : Int32 → Ev → St → Prop} {thr : String → St → Prop} (hl : l.flags = pinnedFlags ++ [noTraceFlag]) (h : wp_LR_split Γ x1 x2 x3 σ post thr) : Ct l y_LR_split hd_LR_split rm_LR_split D AC lo [.ref (Γ.ad 0), .int (x1), .int (x2), .int (x3)] (wσ AC Γ σ) (pIA AC Γ post) (tX AC Γ thr) := by
  refine Ct.of (by decide) (Nat.le_of_ble_eq_true rfl) ?_
  intro p e s m args below meth c hadm hX
  unfold wp_LR_split at h
  show G p l e rm_LR_split s m args below meth c 4 D lo (pIA AC Γ post) (tX AC Γ thr) (wσ AC Γ (σ)) 5 30 0 [(0, .ref (Γ.ad 0)), (1, .int (x1)), (2, .int (x2)), (3, .int (x3))] []
  refine g_aload_n hX d_LR_split_0 rfl 0 rfl ?_
  refine g_iload_n hX d_LR_split_1 rfl 1 rfl ?_
  refine g_callV (i := 0) (k := 4) (n := 24) hX (c_LR_requireFactDay hl h) hdT_LR_requireFactDay hdO_LR_requireFactDay t_1 t_127 t_129 ts_LR_requireFactDay (lt_c (by decide)) rfl (lay_LR (AC := AC) (Γ := Γ)) rfl ⟨⟨by decide, by decide⟩, np_LR_requireFactDay⟩ ⟨Nat.le_of_ble_eq_true rfl, Nat.le_of_ble_eq_true rfl⟩ (Nat.le_of_ble_eq_true rfl) d_LR_split_2 rfl ?_ (fun _ _ z => z)
  rintro _ _ ⟨σ2, rfl, rfl, h⟩
  refine g_iload_n hX d_LR_split_5 rfl 2 rfl ?_
  refine g_callS (k := 3) (n := 18) hX (c_LR_requireParcel hl h) hdT_LR_requireParcel hdO_LR_requireParcel t_1 t_431 t_432 ⟨⟨by decide, by decide⟩, np_LR_requireParcel⟩ ⟨Nat.le_of_ble_eq_true rfl, Nat.le_of_ble_eq_true rfl⟩ (Nat.le_of_ble_eq_true rfl) d_LR_split_6 rfl ?_ (fun _ _ z => z)
  rintro _ _ ⟨σ4, rfl, rfl, h⟩
  refine g_iload_n hX d_LR_split_9 rfl 3 rfl ?_
  refine g_callS (k := 2) (n := 12) hX (c_LR_requireUnits hl h) hdT_LR_requireUnits hdO_LR_requireUnits t_1 t_203 t_204 ⟨⟨by decide, by decide⟩, np_LR_requireUnits⟩ ⟨Nat.le_of_ble_eq_true rfl, Nat.le_of_ble_eq_true rfl⟩ (Nat.le_of_ble_eq_true rfl) d_LR_split_10 rfl ?_ (fun _ _ z => z)
  rintro _ _ ⟨σ6, rfl, rfl, h⟩
  refine g_aload_n hX d_LR_split_13 rfl 0 rfl ?_
  refine g_callV (i := 0) (k := 1) (n := 6) hX (c_LR_requireFreeNumber hl h) hdT_LR_requireFreeNumber hdO_LR_requireFreeNumber t_1 t_208 t_210 ts_LR_requireFreeNumber (lt_c (by decide)) rfl (lay_LR (AC := AC) (Γ := Γ)) rfl ⟨⟨by decide, by decide⟩, np_LR_requireFreeNumber⟩ ⟨Nat.le_of_ble_eq_true rfl, Nat.le_of_ble_eq_true rfl⟩ (Nat.le_of_ble_eq_true rfl) d_LR_split_14 rfl ?_ (fun _ _ z => z)
  rintro _ _ ⟨σ8, rfl, rfl, h⟩
  refine g_aload_n hX d_LR_split_17 rfl 0 rfl ?_
  refine g_iload_n hX d_LR_split_18 rfl 1 rfl ?_
  refine g_new (k := 0) (n := 0) (ci := 9) (fs := [.int 0, .int 0, .int 0, .int 0, .int 0, .int 0]) hX rfl in_Sp ty_Sp t_606 t_607 t_20 def_Sp d_LR_split_19 (fun qa => ?_)
  rw [deed_w9]
  refine g_dup hX d_LR_split_22 rfl ?_
  refine g_iload_n hX d_LR_split_23 rfl 2 rfl ?_
  refine g_iload_n hX d_LR_split_24 rfl 3 rfl ?_
  have z1 := c_Sp_init (l := l) (D := D) (AC := AC) (lo := lo) (h qa)
  rw [deed_adN] at z1
  refine g_callI (k := 0) (n := 0) (a := qa) (As := [.int (x2), .int (x3)]) (rest := [.ref qa, .int (x1), .ref (Γ.ad 0)]) hX z1 hdT_Sp_init t_20 t_608 t_609 rfl ⟨⟨by decide, by decide⟩, np_Sp_init⟩ ⟨Nat.le_of_ble_eq_true rfl, Nat.le_of_ble_eq_true rfl⟩ (Nat.le_of_ble_eq_true rfl) d_LR_split_25 rfl ?_ (fun _ _ z => by obtain ⟨_, _, zz⟩ := z; exact zz.elim)
  rintro _ _ ⟨σ1, rfl, rfl, h⟩
  have z2 := c_LR_file (l := l) (D := D) (AC := AC) (lo := lo) h
  rw [deed_adN, deed_ad (i := 0) (by omega)] at z2
  refine g_callV (i := 0) (k := 0) (n := 0) (a := Γ.ad 0) (As := [.int (x1), .ref qa]) (rest := []) hX z2 hdT_LR_file hdO_LR_file t_1 t_263 t_265 ts_LR_file (lt_c (by decide)) (deed_ad (ci := 9) (by omega)) (lay_LR (AC := AC) (Γ := (Γ.deed 9 qa))) rfl ⟨⟨by decide, by decide⟩, np_LR_file⟩ ⟨Nat.le_of_ble_eq_true rfl, Nat.le_of_ble_eq_true rfl⟩ (Nat.le_of_ble_eq_true rfl) d_LR_split_28 rfl ?_ (fun _ _ z => by obtain ⟨_, _, zz⟩ := z; exact zz.elim)
  rintro _ _ ⟨v2, σ2, rfl, rfl, h⟩
  exact g_iret hX rfl d_LR_split_31 ⟨_, _, _, rfl, rfl, fun i hi => deed_ad (by omega), h⟩

def wp_LR_merge (Γ : Ev) (x1 : Int32) (x2 : Int32) (x3 : Int32) (σ : St) (post : Int32 → Ev → St → Prop) (thr : String → St → Prop) : Prop := wp_LR_requireFactDay Γ (x1) (σ) (fun σ2 => wp_LR_requireParcel Γ (x2) (σ2) (fun σ4 => wp_LR_requireParcel Γ (x3) (σ4) (fun σ6 => wp_LR_requireDifferent Γ (x2) (x3) (σ6) (fun σ8 => wp_LR_requireFreeNumber Γ  (σ8) (fun σ10 => (∀ qa, wp_Me_init (Γ.deed 10 qa) Γ.nd (x2) (x3) (St.deed (σ10) Γ.nd) (fun σ1 => wp_LR_file (Γ.deed 10 qa) x1 Γ.nd σ1 (fun v2 σ2 => post v2 (Γ.deed 10 qa) σ2) (fun _ _ => False)) (fun _ _ => False))) thr) thr) thr) thr) thr
abbrev rm_LR_merge : Room := { frames := 7, cells := 6, slots := 36, locals := 156 }
set_option maxRecDepth 100000 in
set_option maxHeartbeats 4000000 in
theorem c_LR_merge {l : Launch} {D : va_G} {AC : Nat → ClassId} {lo : Nat} {Γ : Ev} {x1 : Int32} {x2 : Int32} {x3 : Int32} {σ : St} {post : Int32 → Ev → St → Prop} {thr : String → St → Prop} (hl : l.flags = pinnedFlags ++ [noTraceFlag]) (h : wp_LR_merge Γ x1 x2 x3 σ post thr) : Ct l y_LR_merge hd_LR_merge rm_LR_merge D AC lo [.ref (Γ.ad 0), .int (x1), .int (x2), .int (x3)] (wσ AC Γ σ) (pIA AC Γ post) (tX AC Γ thr) := by
  refine Ct.of (by decide) (Nat.le_of_ble_eq_true rfl) ?_
  intro p e s m args below meth c hadm hX
  unfold wp_LR_merge at h
  show G p l e rm_LR_merge s m args below meth c 4 D lo (pIA AC Γ post) (tX AC Γ thr) (wσ AC Γ (σ)) 6 36 0 [(0, .ref (Γ.ad 0)), (1, .int (x1)), (2, .int (x2)), (3, .int (x3))] []
  refine g_aload_n hX d_LR_merge_0 rfl 0 rfl ?_
  refine g_iload_n hX d_LR_merge_1 rfl 1 rfl ?_
  refine g_callV (i := 0) (k := 5) (n := 30) hX (c_LR_requireFactDay hl h) hdT_LR_requireFactDay hdO_LR_requireFactDay t_1 t_127 t_129 ts_LR_requireFactDay (lt_c (by decide)) rfl (lay_LR (AC := AC) (Γ := Γ)) rfl ⟨⟨by decide, by decide⟩, np_LR_requireFactDay⟩ ⟨Nat.le_of_ble_eq_true rfl, Nat.le_of_ble_eq_true rfl⟩ (Nat.le_of_ble_eq_true rfl) d_LR_merge_2 rfl ?_ (fun _ _ z => z)
  rintro _ _ ⟨σ2, rfl, rfl, h⟩
  refine g_iload_n hX d_LR_merge_5 rfl 2 rfl ?_
  refine g_callS (k := 4) (n := 24) hX (c_LR_requireParcel hl h) hdT_LR_requireParcel hdO_LR_requireParcel t_1 t_431 t_432 ⟨⟨by decide, by decide⟩, np_LR_requireParcel⟩ ⟨Nat.le_of_ble_eq_true rfl, Nat.le_of_ble_eq_true rfl⟩ (Nat.le_of_ble_eq_true rfl) d_LR_merge_6 rfl ?_ (fun _ _ z => z)
  rintro _ _ ⟨σ4, rfl, rfl, h⟩
  refine g_iload_n hX d_LR_merge_9 rfl 3 rfl ?_
  refine g_callS (k := 3) (n := 18) hX (c_LR_requireParcel hl h) hdT_LR_requireParcel hdO_LR_requireParcel t_1 t_431 t_432 ⟨⟨by decide, by decide⟩, np_LR_requireParcel⟩ ⟨Nat.le_of_ble_eq_true rfl, Nat.le_of_ble_eq_true rfl⟩ (Nat.le_of_ble_eq_true rfl) d_LR_merge_10 rfl ?_ (fun _ _ z => z)
  rintro _ _ ⟨σ6, rfl, rfl, h⟩
  refine g_iload_n hX d_LR_merge_13 rfl 2 rfl ?_
  refine g_iload_n hX d_LR_merge_14 rfl 3 rfl ?_
  refine g_callS (k := 2) (n := 12) hX (c_LR_requireDifferent hl h) hdT_LR_requireDifferent hdO_LR_requireDifferent t_1 t_435 t_436 ⟨⟨by decide, by decide⟩, np_LR_requireDifferent⟩ ⟨Nat.le_of_ble_eq_true rfl, Nat.le_of_ble_eq_true rfl⟩ (Nat.le_of_ble_eq_true rfl) d_LR_merge_15 rfl ?_ (fun _ _ z => z)
  rintro _ _ ⟨σ8, rfl, rfl, h⟩
  refine g_aload_n hX d_LR_merge_18 rfl 0 rfl ?_
  refine g_callV (i := 0) (k := 1) (n := 6) hX (c_LR_requireFreeNumber hl h) hdT_LR_requireFreeNumber hdO_LR_requireFreeNumber t_1 t_208 t_210 ts_LR_requireFreeNumber (lt_c (by decide)) rfl (lay_LR (AC := AC) (Γ := Γ)) rfl ⟨⟨by decide, by decide⟩, np_LR_requireFreeNumber⟩ ⟨Nat.le_of_ble_eq_true rfl, Nat.le_of_ble_eq_true rfl⟩ (Nat.le_of_ble_eq_true rfl) d_LR_merge_19 rfl ?_ (fun _ _ z => z)
  rintro _ _ ⟨σ10, rfl, rfl, h⟩
  refine g_aload_n hX d_LR_merge_22 rfl 0 rfl ?_
  refine g_iload_n hX d_LR_merge_23 rfl 1 rfl ?_
  refine g_new (k := 0) (n := 0) (ci := 10) (fs := [.int 0, .int 0, .int 0, .int 0, .int 0, .int 0]) hX rfl in_Me ty_Me t_630 t_631 t_21 def_Me d_LR_merge_24 (fun qa => ?_)
  rw [deed_w10]
  refine g_dup hX d_LR_merge_27 rfl ?_
  refine g_iload_n hX d_LR_merge_28 rfl 2 rfl ?_
  refine g_iload_n hX d_LR_merge_29 rfl 3 rfl ?_
  have z1 := c_Me_init (l := l) (D := D) (AC := AC) (lo := lo) (h qa)
  rw [deed_adN] at z1
  refine g_callI (k := 0) (n := 0) (a := qa) (As := [.int (x2), .int (x3)]) (rest := [.ref qa, .int (x1), .ref (Γ.ad 0)]) hX z1 hdT_Me_init t_21 t_632 t_633 rfl ⟨⟨by decide, by decide⟩, np_Me_init⟩ ⟨Nat.le_of_ble_eq_true rfl, Nat.le_of_ble_eq_true rfl⟩ (Nat.le_of_ble_eq_true rfl) d_LR_merge_30 rfl ?_ (fun _ _ z => by obtain ⟨_, _, zz⟩ := z; exact zz.elim)
  rintro _ _ ⟨σ1, rfl, rfl, h⟩
  have z2 := c_LR_file (l := l) (D := D) (AC := AC) (lo := lo) h
  rw [deed_adN, deed_ad (i := 0) (by omega)] at z2
  refine g_callV (i := 0) (k := 0) (n := 0) (a := Γ.ad 0) (As := [.int (x1), .ref qa]) (rest := []) hX z2 hdT_LR_file hdO_LR_file t_1 t_263 t_265 ts_LR_file (lt_c (by decide)) (deed_ad (ci := 10) (by omega)) (lay_LR (AC := AC) (Γ := (Γ.deed 10 qa))) rfl ⟨⟨by decide, by decide⟩, np_LR_file⟩ ⟨Nat.le_of_ble_eq_true rfl, Nat.le_of_ble_eq_true rfl⟩ (Nat.le_of_ble_eq_true rfl) d_LR_merge_33 rfl ?_ (fun _ _ z => by obtain ⟨_, _, zz⟩ := z; exact zz.elim)
  rintro _ _ ⟨v2, σ2, rfl, rfl, h⟩
  exact g_iret hX rfl d_LR_merge_36 ⟨_, _, _, rfl, rfl, fun i hi => deed_ad (by omega), h⟩
