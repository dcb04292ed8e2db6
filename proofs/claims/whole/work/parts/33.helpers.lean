def wp_W_found (Γ : Ev) (x1 : Int32) (x2 : Int32) (x3 : Int32) (σ : St) (post : Int32 → Ev → St → Prop) : Prop := wp_LR_found Γ x1 x2 x3 σ (fun v Γ1 σ1 => post (0 : Int32) Γ1 (St.sL σ1 6 (0 : Int32).toNatClampNeg (Int32.toInt64 v))) (fun E σ1 => (E = "java/lang/IllegalArgumentException" → post (1 : Int32) Γ σ1) ∧ (E = "java/lang/IllegalStateException" → post (2 : Int32) Γ σ1) ∧ (E = "java/lang/IllegalArgumentException" ∨ E = "java/lang/IllegalStateException"))
abbrev rm_W_found : Room := { frames := 8, cells := 5, slots := 30, locals := 179 }
set_option maxRecDepth 100000 in
set_option maxHeartbeats 4000000 in
theorem c_W_found {l : Launch} {D : va_G} {AC : Nat → ClassId} {lo : Nat} {Γ : Ev} {x1 : Int32} {x2 : Int32} {x3 : Int32} {σ : St} {post : Int32 → Ev → St → Prop} {thr : String → St → Prop} (hl : l.flags = pinnedFlags ++ [noTraceFlag]) (h : wp_W_found Γ x1 x2 x3 σ post) : Ct l y_W_found hd_W_found rm_W_found D AC lo [.ref (Γ.ad 0), .int x1, .int x2, .int x3, .ref (Γ.ad 343)] (wσ AC Γ σ) (pIA AC Γ post) (tX AC Γ thr) := by
  refine Ct.ofH (by decide) (Nat.le_of_ble_eq_true rfl) ?_
  intro p e s m args below meth c hadm hX
  unfold wp_W_found at h
  show G p l e rm_W_found s m args below meth c 6 D lo (pIA AC Γ post) (tX AC Γ thr) (wσ AC Γ σ) 5 30 0 [(0, .ref (Γ.ad 0)), (1, .int x1), (2, .int x2), (3, .int x3), (4, .ref (Γ.ad 343))] []
  refine g_aload hX d_W_found_0 4 rfl ?_
  refine g_iconst (v := 0) hX d_W_found_2 (by decide) ?_
  refine g_aload_n hX d_W_found_3 rfl 0 rfl ?_
  refine g_iload_n hX d_W_found_4 rfl 1 rfl ?_
  refine g_iload_n hX d_W_found_5 rfl 2 rfl ?_
  refine g_iload_n hX d_W_found_6 rfl 3 rfl ?_
  refine g_callVH (i := 0) (k := 0) (n := 0) hX (c_LR_found hl h) hdT_LR_found hdO_LR_found t_1 t_123 t_124 t_125 (lt_c (by decide)) rfl (lay_LR (AC := AC) (Γ := Γ)) rfl ⟨⟨by decide, by decide⟩, np_LR_found⟩ ⟨Nat.le_of_ble_eq_true rfl, Nat.le_of_ble_eq_true rfl⟩ (Nat.le_of_ble_eq_true rfl) d_W_found_7 rfl ?_ ?_
  · rintro _ _ ⟨v, Γ1, σ1, rfl, rfl, hA, h⟩
    refine g_i2l hX d_W_found_10 ?_
    refine g_last (i := 343) hX (lt_c (by decide)) (hA 343 (by decide)) (lay_m18 (AC := AC) (Γ := Γ1)) (by unfold vp_in; decide) d_W_found_11 (wσ_m_out _) ?_
    refine g_goto (tgt := 23) hX d_W_found_12 (by decide) ?_
    refine g_iconst (v := 0) hX d_W_found_23 (by decide) ?_
    exact g_iret hX rfl d_W_found_24 ⟨_, _, _, rfl, rfl, hA, h⟩
  · rintro E _ ⟨σ1, rfl, h⟩
    rcases h.2.2 with hE | hE
    · subst hE
      refine gx_catch hX [] ⟨0, 12, 15, 13⟩ [⟨0, 12, 19, 15⟩] rfl (fun z hz => by cases hz) (by decide) (by decide) t_121 n_133 (fun q => ?_)
      have h := h.1 rfl
      refine g_astore hX d_W_found_15 (by decide) rfl ?_
      refine g_iconst (v := 1) hX d_W_found_17 (by decide) ?_
      exact g_iret hX rfl d_W_found_18 ⟨_, _, _, rfl, rfl, fun _ _ => rfl, h⟩
    · subst hE
      refine gx_catch hX [⟨0, 12, 15, 13⟩] ⟨0, 12, 19, 15⟩ [] rfl (fun z hz => by rw [List.mem_singleton.mp hz]; exact Or.inr ⟨by decide, _, t_121, hX.2.1.2.2.2.2.2.1⟩) (by decide) (by decide) t_122 n_214 (fun q => ?_)
      have h := h.2.1 rfl
      refine g_astore hX d_W_found_19 (by decide) rfl ?_
      refine g_iconst (v := 2) hX d_W_found_21 (by decide) ?_
      exact g_iret hX rfl d_W_found_22 ⟨_, _, _, rfl, rfl, fun _ _ => rfl, h⟩

def wp_W_sell (Γ : Ev) (x1 : Int32) (x2 : Int32) (x3 : Int32) (x4 : Int32) (x5 : Int64) (σ : St) (post : Int32 → Ev → St → Prop) : Prop := wp_LR_sell Γ x1 x2 x3 x4 x5 σ (fun v Γ1 σ1 => post (0 : Int32) Γ1 (St.sL σ1 6 (0 : Int32).toNatClampNeg (Int32.toInt64 v))) (fun E σ1 => (E = "java/lang/IllegalArgumentException" → post (1 : Int32) Γ σ1) ∧ (E = "java/lang/IllegalStateException" → post (2 : Int32) Γ σ1) ∧ (E = "java/lang/IllegalArgumentException" ∨ E = "java/lang/IllegalStateException"))
abbrev rm_W_sell : Room := { frames := 8, cells := 8, slots := 50, locals := 182 }
set_option maxRecDepth 100000 in
set_option maxHeartbeats 4000000 in
theorem c_W_sell {l : Launch} {D : va_G} {AC : Nat → ClassId} {lo : Nat} {Γ : Ev} {x1 : Int32} {x2 : Int32} {x3 : Int32} {x4 : Int32} {x5 : Int64} {σ : St} {post : Int32 → Ev → St → Prop} {thr : String → St → Prop} (hl : l.flags = pinnedFlags ++ [noTraceFlag]) (h : wp_W_sell Γ x1 x2 x3 x4 x5 σ post) : Ct l y_W_sell hd_W_sell rm_W_sell D AC lo [.ref (Γ.ad 0), .int x1, .int x2, .int x3, .int x4, .long x5, .ref (Γ.ad 343)] (wσ AC Γ σ) (pIA AC Γ post) (tX AC Γ thr) := by
  refine Ct.ofH (by decide) (Nat.le_of_ble_eq_true rfl) ?_
  intro p e s m args below meth c hadm hX
  unfold wp_W_sell at h
  show G p l e rm_W_sell s m args below meth c 9 D lo (pIA AC Γ post) (tX AC Γ thr) (wσ AC Γ σ) 8 50 0 [(0, .ref (Γ.ad 0)), (1, .int x1), (2, .int x2), (3, .int x3), (4, .int x4), (5, .long x5), (7, .ref (Γ.ad 343))] []
  refine g_aload hX d_W_sell_0 6 rfl ?_
  refine g_iconst (v := 0) hX d_W_sell_2 (by decide) ?_
  refine g_aload_n hX d_W_sell_3 rfl 0 rfl ?_
  refine g_iload_n hX d_W_sell_4 rfl 1 rfl ?_
  refine g_iload_n hX d_W_sell_5 rfl 2 rfl ?_
  refine g_iload_n hX d_W_sell_6 rfl 3 rfl ?_
  refine g_iload hX d_W_sell_7 4 rfl ?_
  refine g_lload hX d_W_sell_9 5 rfl ?_
  refine g_callVH (i := 0) (k := 0) (n := 0) hX (c_LR_sell hl h) hdT_LR_sell hdO_LR_sell t_1 t_427 t_428 t_429 (lt_c (by decide)) rfl (lay_LR (AC := AC) (Γ := Γ)) rfl ⟨⟨by decide, by decide⟩, np_LR_sell⟩ ⟨Nat.le_of_ble_eq_true rfl, Nat.le_of_ble_eq_true rfl⟩ (Nat.le_of_ble_eq_true rfl) d_W_sell_11 rfl ?_ ?_
  · rintro _ _ ⟨v, Γ1, σ1, rfl, rfl, hA, h⟩
    refine g_i2l hX d_W_sell_14 ?_
    refine g_last (i := 343) hX (lt_c (by decide)) (hA 343 (by decide)) (lay_m18 (AC := AC) (Γ := Γ1)) (by unfold vp_in; decide) d_W_sell_15 (wσ_m_out _) ?_
    refine g_goto (tgt := 27) hX d_W_sell_16 (by decide) ?_
    refine g_iconst (v := 0) hX d_W_sell_27 (by decide) ?_
    exact g_iret hX rfl d_W_sell_28 ⟨_, _, _, rfl, rfl, hA, h⟩
  · rintro E _ ⟨σ1, rfl, h⟩
    rcases h.2.2 with hE | hE
    · subst hE
      refine gx_catch hX [] ⟨0, 16, 19, 13⟩ [⟨0, 16, 23, 15⟩] rfl (fun z hz => by cases hz) (by decide) (by decide) t_121 n_133 (fun q => ?_)
      have h := h.1 rfl
      refine g_astore hX d_W_sell_19 (by decide) rfl ?_
      refine g_iconst (v := 1) hX d_W_sell_21 (by decide) ?_
      exact g_iret hX rfl d_W_sell_22 ⟨_, _, _, rfl, rfl, fun _ _ => rfl, h⟩
    · subst hE
      refine gx_catch hX [⟨0, 16, 19, 13⟩] ⟨0, 16, 23, 15⟩ [] rfl (fun z hz => by rw [List.mem_singleton.mp hz]; exact Or.inr ⟨by decide, _, t_121, hX.2.1.2.2.2.2.2.1⟩) (by decide) (by decide) t_122 n_214 (fun q => ?_)
      have h := h.2.1 rfl
      refine g_astore hX d_W_sell_23 (by decide) rfl ?_
      refine g_iconst (v := 2) hX d_W_sell_25 (by decide) ?_
      exact g_iret hX rfl d_W_sell_26 ⟨_, _, _, rfl, rfl, fun _ _ => rfl, h⟩

def wp_W_pledge (Γ : Ev) (x1 : Int32) (x2 : Int32) (x3 : Int32) (x4 : Int32) (σ : St) (post : Int32 → Ev → St → Prop) : Prop := wp_LR_pledge Γ x1 x2 x3 x4 σ (fun v Γ1 σ1 => post (0 : Int32) Γ1 (St.sL σ1 6 (0 : Int32).toNatClampNeg (Int32.toInt64 v))) (fun E σ1 => (E = "java/lang/IllegalArgumentException" → post (1 : Int32) Γ σ1) ∧ (E = "java/lang/IllegalStateException" → post (2 : Int32) Γ σ1) ∧ (E = "java/lang/IllegalArgumentException" ∨ E = "java/lang/IllegalStateException"))
abbrev rm_W_pledge : Room := { frames := 8, cells := 6, slots := 37, locals := 180 }
set_option maxRecDepth 100000 in
set_option maxHeartbeats 4000000 in
theorem c_W_pledge {l : Launch} {D : va_G} {AC : Nat → ClassId} {lo : Nat} {Γ : Ev} {x1 : Int32} {x2 : Int32} {x3 : Int32} {x4 : Int32} {σ : St} {post : Int32 → Ev → St → Prop} {thr : String → St → Prop} (hl : l.flags = pinnedFlags ++ [noTraceFlag]) (h : wp_W_pledge Γ x1 x2 x3 x4 σ post) : Ct l y_W_pledge hd_W_pledge rm_W_pledge D AC lo [.ref (Γ.ad 0), .int x1, .int x2, .int x3, .int x4, .ref (Γ.ad 343)] (wσ AC Γ σ) (pIA AC Γ post) (tX AC Γ thr) := by
  refine Ct.ofH (by decide) (Nat.le_of_ble_eq_true rfl) ?_
  intro p e s m args below meth c hadm hX
  unfold wp_W_pledge at h
  show G p l e rm_W_pledge s m args below meth c 7 D lo (pIA AC Γ post) (tX AC Γ thr) (wσ AC Γ σ) 6 37 0 [(0, .ref (Γ.ad 0)), (1, .int x1), (2, .int x2), (3, .int x3), (4, .int x4), (5, .ref (Γ.ad 343))] []
  refine g_aload hX d_W_pledge_0 5 rfl ?_
  refine g_iconst (v := 0) hX d_W_pledge_2 (by decide) ?_
  refine g_aload_n hX d_W_pledge_3 rfl 0 rfl ?_
  refine g_iload_n hX d_W_pledge_4 rfl 1 rfl ?_
  refine g_iload_n hX d_W_pledge_5 rfl 2 rfl ?_
  refine g_iload_n hX d_W_pledge_6 rfl 3 rfl ?_
  refine g_iload hX d_W_pledge_7 4 rfl ?_
  refine g_callVH (i := 0) (k := 0) (n := 0) hX (c_LR_pledge hl h) hdT_LR_pledge hdO_LR_pledge t_1 t_470 t_471 t_472 (lt_c (by decide)) rfl (lay_LR (AC := AC) (Γ := Γ)) rfl ⟨⟨by decide, by decide⟩, np_LR_pledge⟩ ⟨Nat.le_of_ble_eq_true rfl, Nat.le_of_ble_eq_true rfl⟩ (Nat.le_of_ble_eq_true rfl) d_W_pledge_9 rfl ?_ ?_
  · rintro _ _ ⟨v, Γ1, σ1, rfl, rfl, hA, h⟩
    refine g_i2l hX d_W_pledge_12 ?_
    refine g_last (i := 343) hX (lt_c (by decide)) (hA 343 (by decide)) (lay_m18 (AC := AC) (Γ := Γ1)) (by unfold vp_in; decide) d_W_pledge_13 (wσ_m_out _) ?_
    refine g_goto (tgt := 25) hX d_W_pledge_14 (by decide) ?_
    refine g_iconst (v := 0) hX d_W_pledge_25 (by decide) ?_
    exact g_iret hX rfl d_W_pledge_26 ⟨_, _, _, rfl, rfl, hA, h⟩
  · rintro E _ ⟨σ1, rfl, h⟩
    rcases h.2.2 with hE | hE
    · subst hE
      refine gx_catch hX [] ⟨0, 14, 17, 13⟩ [⟨0, 14, 21, 15⟩] rfl (fun z hz => by cases hz) (by decide) (by decide) t_121 n_133 (fun q => ?_)
      have h := h.1 rfl
      refine g_astore hX d_W_pledge_17 (by decide) rfl ?_
      refine g_iconst (v := 1) hX d_W_pledge_19 (by decide) ?_
      exact g_iret hX rfl d_W_pledge_20 ⟨_, _, _, rfl, rfl, fun _ _ => rfl, h⟩
    · subst hE
      refine gx_catch hX [⟨0, 14, 17, 13⟩] ⟨0, 14, 21, 15⟩ [] rfl (fun z hz => by rw [List.mem_singleton.mp hz]; exact Or.inr ⟨by decide, _, t_121, hX.2.1.2.2.2.2.2.1⟩) (by decide) (by decide) t_122 n_214 (fun q => ?_)
      have h := h.2.1 rfl
      refine g_astore hX d_W_pledge_21 (by decide) rfl ?_
      refine g_iconst (v := 2) hX d_W_pledge_23 (by decide) ?_
      exact g_iret hX rfl d_W_pledge_24 ⟨_, _, _, rfl, rfl, fun _ _ => rfl, h⟩

def wp_W_rerank (Γ : Ev) (x1 : Int32) (x2 : Int32) (x3 : Int32) (x4 : Int32) (x5 : Int32) (σ : St) (post : Int32 → Ev → St → Prop) : Prop := wp_LR_rerank Γ x1 x2 x3 x4 x5 σ (fun v Γ1 σ1 => post (0 : Int32) Γ1 (St.sL σ1 6 (0 : Int32).toNatClampNeg (Int32.toInt64 v))) (fun E σ1 => (E = "java/lang/IllegalArgumentException" → post (1 : Int32) Γ σ1) ∧ (E = "java/lang/IllegalStateException" → post (2 : Int32) Γ σ1) ∧ (E = "java/lang/IllegalArgumentException" ∨ E = "java/lang/IllegalStateException"))
abbrev rm_W_rerank : Room := { frames := 8, cells := 7, slots := 44, locals := 181 }
set_option maxRecDepth 100000 in
set_option maxHeartbeats 4000000 in
theorem c_W_rerank {l : Launch} {D : va_G} {AC : Nat → ClassId} {lo : Nat} {Γ : Ev} {x1 : Int32} {x2 : Int32} {x3 : Int32} {x4 : Int32} {x5 : Int32} {σ : St} {post : Int32 → Ev → St → Prop} {thr : String → St → Prop} (hl : l.flags = pinnedFlags ++ [noTraceFlag]) (h : wp_W_rerank Γ x1 x2 x3 x4 x5 σ post) : Ct l y_W_rerank hd_W_rerank rm_W_rerank D AC lo [.ref (Γ.ad 0), .int x1, .int x2, .int x3, .int x4, .int x5, .ref (Γ.ad 343)] (wσ AC Γ σ) (pIA AC Γ post) (tX AC Γ thr) := by
  refine Ct.ofH (by decide) (Nat.le_of_ble_eq_true rfl) ?_
  intro p e s m args below meth c hadm hX
  unfold wp_W_rerank at h
  show G p l e rm_W_rerank s m args below meth c 8 D lo (pIA AC Γ post) (tX AC Γ thr) (wσ AC Γ σ) 7 44 0 [(0, .ref (Γ.ad 0)), (1, .int x1), (2, .int x2), (3, .int x3), (4, .int x4), (5, .int x5), (6, .ref (Γ.ad 343))] []
  refine g_aload hX d_W_rerank_0 6 rfl ?_
  refine g_iconst (v := 0) hX d_W_rerank_2 (by decide) ?_
  refine g_aload_n hX d_W_rerank_3 rfl 0 rfl ?_
  refine g_iload_n hX d_W_rerank_4 rfl 1 rfl ?_
  refine g_iload_n hX d_W_rerank_5 rfl 2 rfl ?_
  refine g_iload_n hX d_W_rerank_6 rfl 3 rfl ?_
  refine g_iload hX d_W_rerank_7 4 rfl ?_
  refine g_iload hX d_W_rerank_9 5 rfl ?_
  refine g_callVH (i := 0) (k := 0) (n := 0) hX (c_LR_rerank hl h) hdT_LR_rerank hdO_LR_rerank t_1 t_497 t_498 t_499 (lt_c (by decide)) rfl (lay_LR (AC := AC) (Γ := Γ)) rfl ⟨⟨by decide, by decide⟩, np_LR_rerank⟩ ⟨Nat.le_of_ble_eq_true rfl, Nat.le_of_ble_eq_true rfl⟩ (Nat.le_of_ble_eq_true rfl) d_W_rerank_11 rfl ?_ ?_
  · rintro _ _ ⟨v, Γ1, σ1, rfl, rfl, hA, h⟩
    refine g_i2l hX d_W_rerank_14 ?_
    refine g_last (i := 343) hX (lt_c (by decide)) (hA 343 (by decide)) (lay_m18 (AC := AC) (Γ := Γ1)) (by unfold vp_in; decide) d_W_rerank_15 (wσ_m_out _) ?_
    refine g_goto (tgt := 27) hX d_W_rerank_16 (by decide) ?_
    refine g_iconst (v := 0) hX d_W_rerank_27 (by decide) ?_
    exact g_iret hX rfl d_W_rerank_28 ⟨_, _, _, rfl, rfl, hA, h⟩
  · rintro E _ ⟨σ1, rfl, h⟩
    rcases h.2.2 with hE | hE
    · subst hE
      refine gx_catch hX [] ⟨0, 16, 19, 13⟩ [⟨0, 16, 23, 15⟩] rfl (fun z hz => by cases hz) (by decide) (by decide) t_121 n_133 (fun q => ?_)
      have h := h.1 rfl
      refine g_astore hX d_W_rerank_19 (by decide) rfl ?_
      refine g_iconst (v := 1) hX d_W_rerank_21 (by decide) ?_
      exact g_iret hX rfl d_W_rerank_22 ⟨_, _, _, rfl, rfl, fun _ _ => rfl, h⟩
    · subst hE
      refine gx_catch hX [⟨0, 16, 19, 13⟩] ⟨0, 16, 23, 15⟩ [] rfl (fun z hz => by rw [List.mem_singleton.mp hz]; exact Or.inr ⟨by decide, _, t_121, hX.2.1.2.2.2.2.2.1⟩) (by decide) (by decide) t_122 n_214 (fun q => ?_)
      have h := h.2.1 rfl
      refine g_astore hX d_W_rerank_23 (by decide) rfl ?_
      refine g_iconst (v := 2) hX d_W_rerank_25 (by decide) ?_
      exact g_iret hX rfl d_W_rerank_26 ⟨_, _, _, rfl, rfl, fun _ _ => rfl, h⟩

def wp_W_release (Γ : Ev) (x1 : Int32) (x2 : Int32) (x3 : Int32) (σ : St) (post : Int32 → Ev → St → Prop) : Prop := wp_LR_release Γ x1 x2 x3 σ (fun v Γ1 σ1 => post (0 : Int32) Γ1 (St.sL σ1 6 (0 : Int32).toNatClampNeg (Int32.toInt64 v))) (fun E σ1 => (E = "java/lang/IllegalArgumentException" → post (1 : Int32) Γ σ1) ∧ (E = "java/lang/IllegalStateException" → post (2 : Int32) Γ σ1) ∧ (E = "java/lang/IllegalArgumentException" ∨ E = "java/lang/IllegalStateException"))
abbrev rm_W_release : Room := { frames := 8, cells := 5, slots := 30, locals := 179 }
set_option maxRecDepth 100000 in
set_option maxHeartbeats 4000000 in
theorem c_W_release {l : Launch} {D : va_G} {AC : Nat → ClassId} {lo : Nat} {Γ : Ev} {x1 : Int32} {x2 : Int32} {x3 : Int32} {σ : St} {post : Int32 → Ev → St → Prop} {thr : String → St → Prop} (hl : l.flags = pinnedFlags ++ [noTraceFlag]) (h : wp_W_release Γ x1 x2 x3 σ post) : Ct l y_W_release hd_W_release rm_W_release D AC lo [.ref (Γ.ad 0), .int x1, .int x2, .int x3, .ref (Γ.ad 343)] (wσ AC Γ σ) (pIA AC Γ post) (tX AC Γ thr) := by
  refine Ct.ofH (by decide) (Nat.le_of_ble_eq_true rfl) ?_
  intro p e s m args below meth c hadm hX
  unfold wp_W_release at h
  show G p l e rm_W_release s m args below meth c 6 D lo (pIA AC Γ post) (tX AC Γ thr) (wσ AC Γ σ) 5 30 0 [(0, .ref (Γ.ad 0)), (1, .int x1), (2, .int x2), (3, .int x3), (4, .ref (Γ.ad 343))] []
  refine g_aload hX d_W_release_0 4 rfl ?_
  refine g_iconst (v := 0) hX d_W_release_2 (by decide) ?_
  refine g_aload_n hX d_W_release_3 rfl 0 rfl ?_
  refine g_iload_n hX d_W_release_4 rfl 1 rfl ?_
  refine g_iload_n hX d_W_release_5 rfl 2 rfl ?_
  refine g_iload_n hX d_W_release_6 rfl 3 rfl ?_
  refine g_callVH (i := 0) (k := 0) (n := 0) hX (c_LR_release hl h) hdT_LR_release hdO_LR_release t_1 t_530 t_531 t_532 (lt_c (by decide)) rfl (lay_LR (AC := AC) (Γ := Γ)) rfl ⟨⟨by decide, by decide⟩, np_LR_release⟩ ⟨Nat.le_of_ble_eq_true rfl, Nat.le_of_ble_eq_true rfl⟩ (Nat.le_of_ble_eq_true rfl) d_W_release_7 rfl ?_ ?_
  · rintro _ _ ⟨v, Γ1, σ1, rfl, rfl, hA, h⟩
    refine g_i2l hX d_W_release_10 ?_
    refine g_last (i := 343) hX (lt_c (by decide)) (hA 343 (by decide)) (lay_m18 (AC := AC) (Γ := Γ1)) (by unfold vp_in; decide) d_W_release_11 (wσ_m_out _) ?_
    refine g_goto (tgt := 23) hX d_W_release_12 (by decide) ?_
    refine g_iconst (v := 0) hX d_W_release_23 (by decide) ?_
    exact g_iret hX rfl d_W_release_24 ⟨_, _, _, rfl, rfl, hA, h⟩
  · rintro E _ ⟨σ1, rfl, h⟩
    rcases h.2.2 with hE | hE
    · subst hE
      refine gx_catch hX [] ⟨0, 12, 15, 13⟩ [⟨0, 12, 19, 15⟩] rfl (fun z hz => by cases hz) (by decide) (by decide) t_121 n_133 (fun q => ?_)
      have h := h.1 rfl
      refine g_astore hX d_W_release_15 (by decide) rfl ?_
      refine g_iconst (v := 1) hX d_W_release_17 (by decide) ?_
      exact g_iret hX rfl d_W_release_18 ⟨_, _, _, rfl, rfl, fun _ _ => rfl, h⟩
    · subst hE
      refine gx_catch hX [⟨0, 12, 15, 13⟩] ⟨0, 12, 19, 15⟩ [] rfl (fun z hz => by rw [List.mem_singleton.mp hz]; exact Or.inr ⟨by decide, _, t_121, hX.2.1.2.2.2.2.2.1⟩) (by decide) (by decide) t_122 n_214 (fun q => ?_)
      have h := h.2.1 rfl
      refine g_astore hX d_W_release_19 (by decide) rfl ?_
      refine g_iconst (v := 2) hX d_W_release_21 (by decide) ?_
      exact g_iret hX rfl d_W_release_22 ⟨_, _, _, rfl, rfl, fun _ _ => rfl, h⟩

def wp_W_caution (Γ : Ev) (x1 : Int32) (x2 : Int32) (x3 : Int32) (σ : St) (post : Int32 → Ev → St → Prop) : Prop := wp_LR_caution Γ x1 x2 x3 σ (fun v Γ1 σ1 => post (0 : Int32) Γ1 (St.sL σ1 6 (0 : Int32).toNatClampNeg (Int32.toInt64 v))) (fun E σ1 => (E = "java/lang/IllegalArgumentException" → post (1 : Int32) Γ σ1) ∧ (E = "java/lang/IllegalStateException" → post (2 : Int32) Γ σ1) ∧ (E = "java/lang/IllegalArgumentException" ∨ E = "java/lang/IllegalStateException"))
abbrev rm_W_caution : Room := { frames := 8, cells := 5, slots := 30, locals := 179 }
set_option maxRecDepth 100000 in
set_option maxHeartbeats 4000000 in
theorem c_W_caution {l : Launch} {D : va_G} {AC : Nat → ClassId} {lo : Nat} {Γ : Ev} {x1 : Int32} {x2 : Int32} {x3 : Int32} {σ : St} {post : Int32 → Ev → St → Prop} {thr : String → St → Prop} (hl : l.flags = pinnedFlags ++ [noTraceFlag]) (h : wp_W_caution Γ x1 x2 x3 σ post) : Ct l y_W_caution hd_W_caution rm_W_caution D AC lo [.ref (Γ.ad 0), .int x1, .int x2, .int x3, .ref (Γ.ad 343)] (wσ AC Γ σ) (pIA AC Γ post) (tX AC Γ thr) := by
  refine Ct.ofH (by decide) (Nat.le_of_ble_eq_true rfl) ?_
  intro p e s m args below meth c hadm hX
  unfold wp_W_caution at h
  show G p l e rm_W_caution s m args below meth c 6 D lo (pIA AC Γ post) (tX AC Γ thr) (wσ AC Γ σ) 5 30 0 [(0, .ref (Γ.ad 0)), (1, .int x1), (2, .int x2), (3, .int x3), (4, .ref (Γ.ad 343))] []
  refine g_aload hX d_W_caution_0 4 rfl ?_
  refine g_iconst (v := 0) hX d_W_caution_2 (by decide) ?_
  refine g_aload_n hX d_W_caution_3 rfl 0 rfl ?_
  refine g_iload_n hX d_W_caution_4 rfl 1 rfl ?_
  refine g_iload_n hX d_W_caution_5 rfl 2 rfl ?_
  refine g_iload_n hX d_W_caution_6 rfl 3 rfl ?_
  refine g_callVH (i := 0) (k := 0) (n := 0) hX (c_LR_caution hl h) hdT_LR_caution hdO_LR_caution t_1 t_554 t_555 t_556 (lt_c (by decide)) rfl (lay_LR (AC := AC) (Γ := Γ)) rfl ⟨⟨by decide, by decide⟩, np_LR_caution⟩ ⟨Nat.le_of_ble_eq_true rfl, Nat.le_of_ble_eq_true rfl⟩ (Nat.le_of_ble_eq_true rfl) d_W_caution_7 rfl ?_ ?_
  · rintro _ _ ⟨v, Γ1, σ1, rfl, rfl, hA, h⟩
    refine g_i2l hX d_W_caution_10 ?_
    refine g_last (i := 343) hX (lt_c (by decide)) (hA 343 (by decide)) (lay_m18 (AC := AC) (Γ := Γ1)) (by unfold vp_in; decide) d_W_caution_11 (wσ_m_out _) ?_
    refine g_goto (tgt := 23) hX d_W_caution_12 (by decide) ?_
    refine g_iconst (v := 0) hX d_W_caution_23 (by decide) ?_
    exact g_iret hX rfl d_W_caution_24 ⟨_, _, _, rfl, rfl, hA, h⟩
  · rintro E _ ⟨σ1, rfl, h⟩
    rcases h.2.2 with hE | hE
    · subst hE
      refine gx_catch hX [] ⟨0, 12, 15, 13⟩ [⟨0, 12, 19, 15⟩] rfl (fun z hz => by cases hz) (by decide) (by decide) t_121 n_133 (fun q => ?_)
      have h := h.1 rfl
      refine g_astore hX d_W_caution_15 (by decide) rfl ?_
      refine g_iconst (v := 1) hX d_W_caution_17 (by decide) ?_
      exact g_iret hX rfl d_W_caution_18 ⟨_, _, _, rfl, rfl, fun _ _ => rfl, h⟩
    · subst hE
      refine gx_catch hX [⟨0, 12, 15, 13⟩] ⟨0, 12, 19, 15⟩ [] rfl (fun z hz => by rw [List.mem_singleton.mp hz]; exact Or.inr ⟨by decide, _, t_121, hX.2.1.2.2.2.2.2.1⟩) (by decide) (by decide) t_122 n_214 (fun q => ?_)
      have h := h.2.1 rfl
      refine g_astore hX d_W_caution_19 (by decide) rfl ?_
      refine g_iconst (v := 2) hX d_W_caution_21 (by decide) ?_
      exact g_iret hX rfl d_W_caution_22 ⟨_, _, _, rfl, rfl, fun _ _ => rfl, h⟩

def wp_W_lift (Γ : Ev) (x1 : Int32) (x2 : Int32) (x3 : Int32) (σ : St) (post : Int32 → Ev → St → Prop) : Prop := wp_LR_lift Γ x1 x2 x3 σ (fun v Γ1 σ1 => post (0 : Int32) Γ1 (St.sL σ1 6 (0 : Int32).toNatClampNeg (Int32.toInt64 v))) (fun E σ1 => (E = "java/lang/IllegalArgumentException" → post (1 : Int32) Γ σ1) ∧ (E = "java/lang/IllegalStateException" → post (2 : Int32) Γ σ1) ∧ (E = "java/lang/IllegalArgumentException" ∨ E = "java/lang/IllegalStateException"))
abbrev rm_W_lift : Room := { frames := 8, cells := 5, slots := 30, locals := 179 }
set_option maxRecDepth 100000 in
set_option maxHeartbeats 4000000 in
theorem c_W_lift {l : Launch} {D : va_G} {AC : Nat → ClassId} {lo : Nat} {Γ : Ev} {x1 : Int32} {x2 : Int32} {x3 : Int32} {σ : St} {post : Int32 → Ev → St → Prop} {thr : String → St → Prop} (hl : l.flags = pinnedFlags ++ [noTraceFlag]) (h : wp_W_lift Γ x1 x2 x3 σ post) : Ct l y_W_lift hd_W_lift rm_W_lift D AC lo [.ref (Γ.ad 0), .int x1, .int x2, .int x3, .ref (Γ.ad 343)] (wσ AC Γ σ) (pIA AC Γ post) (tX AC Γ thr) := by
  refine Ct.ofH (by decide) (Nat.le_of_ble_eq_true rfl) ?_
  intro p e s m args below meth c hadm hX
  unfold wp_W_lift at h
  show G p l e rm_W_lift s m args below meth c 6 D lo (pIA AC Γ post) (tX AC Γ thr) (wσ AC Γ σ) 5 30 0 [(0, .ref (Γ.ad 0)), (1, .int x1), (2, .int x2), (3, .int x3), (4, .ref (Γ.ad 343))] []
  refine g_aload hX d_W_lift_0 4 rfl ?_
  refine g_iconst (v := 0) hX d_W_lift_2 (by decide) ?_
  refine g_aload_n hX d_W_lift_3 rfl 0 rfl ?_
  refine g_iload_n hX d_W_lift_4 rfl 1 rfl ?_
  refine g_iload_n hX d_W_lift_5 rfl 2 rfl ?_
  refine g_iload_n hX d_W_lift_6 rfl 3 rfl ?_
  refine g_callVH (i := 0) (k := 0) (n := 0) hX (c_LR_lift hl h) hdT_LR_lift hdO_LR_lift t_1 t_578 t_579 t_580 (lt_c (by decide)) rfl (lay_LR (AC := AC) (Γ := Γ)) rfl ⟨⟨by decide, by decide⟩, np_LR_lift⟩ ⟨Nat.le_of_ble_eq_true rfl, Nat.le_of_ble_eq_true rfl⟩ (Nat.le_of_ble_eq_true rfl) d_W_lift_7 rfl ?_ ?_
  · rintro _ _ ⟨v, Γ1, σ1, rfl, rfl, hA, h⟩
    refine g_i2l hX d_W_lift_10 ?_
    refine g_last (i := 343) hX (lt_c (by decide)) (hA 343 (by decide)) (lay_m18 (AC := AC) (Γ := Γ1)) (by unfold vp_in; decide) d_W_lift_11 (wσ_m_out _) ?_
    refine g_goto (tgt := 23) hX d_W_lift_12 (by decide) ?_
    refine g_iconst (v := 0) hX d_W_lift_23 (by decide) ?_
    exact g_iret hX rfl d_W_lift_24 ⟨_, _, _, rfl, rfl, hA, h⟩
  · rintro E _ ⟨σ1, rfl, h⟩
    rcases h.2.2 with hE | hE
    · subst hE
      refine gx_catch hX [] ⟨0, 12, 15, 13⟩ [⟨0, 12, 19, 15⟩] rfl (fun z hz => by cases hz) (by decide) (by decide) t_121 n_133 (fun q => ?_)
      have h := h.1 rfl
      refine g_astore hX d_W_lift_15 (by decide) rfl ?_
      refine g_iconst (v := 1) hX d_W_lift_17 (by decide) ?_
      exact g_iret hX rfl d_W_lift_18 ⟨_, _, _, rfl, rfl, fun _ _ => rfl, h⟩
    · subst hE
      refine gx_catch hX [⟨0, 12, 15, 13⟩] ⟨0, 12, 19, 15⟩ [] rfl (fun z hz => by rw [List.mem_singleton.mp hz]; exact Or.inr ⟨by decide, _, t_121, hX.2.1.2.2.2.2.2.1⟩) (by decide) (by decide) t_122 n_214 (fun q => ?_)
      have h := h.2.1 rfl
      refine g_astore hX d_W_lift_19 (by decide) rfl ?_
      refine g_iconst (v := 2) hX d_W_lift_21 (by decide) ?_
      exact g_iret hX rfl d_W_lift_22 ⟨_, _, _, rfl, rfl, fun _ _ => rfl, h⟩

def wp_W_split (Γ : Ev) (x1 : Int32) (x2 : Int32) (x3 : Int32) (σ : St) (post : Int32 → Ev → St → Prop) : Prop := wp_LR_split Γ x1 x2 x3 σ (fun v Γ1 σ1 => post (0 : Int32) Γ1 (St.sL σ1 6 (0 : Int32).toNatClampNeg (Int32.toInt64 v))) (fun E σ1 => (E = "java/lang/IllegalArgumentException" → post (1 : Int32) Γ σ1) ∧ (E = "java/lang/IllegalStateException" → post (2 : Int32) Γ σ1) ∧ (E = "java/lang/IllegalArgumentException" ∨ E = "java/lang/IllegalStateException"))
abbrev rm_W_split : Room := { frames := 8, cells := 5, slots := 30, locals := 179 }
set_option maxRecDepth 100000 in
set_option maxHeartbeats 4000000 in
theorem c_W_split {l : Launch} {D : va_G} {AC : Nat → ClassId} {lo : Nat} {Γ : Ev} {x1 : Int32} {x2 : Int32} {x3 : Int32} {σ : St} {post : Int32 → Ev → St → Prop} {thr : String → St → Prop} (hl : l.flags = pinnedFlags ++ [noTraceFlag]) (h : wp_W_split Γ x1 x2 x3 σ post) : Ct l y_W_split hd_W_split rm_W_split D AC lo [.ref (Γ.ad 0), .int x1, .int x2, .int x3, .ref (Γ.ad 343)] (wσ AC Γ σ) (pIA AC Γ post) (tX AC Γ thr) := by
  refine Ct.ofH (by decide) (Nat.le_of_ble_eq_true rfl) ?_
  intro p e s m args below meth c hadm hX
  unfold wp_W_split at h
  show G p l e rm_W_split s m args below meth c 6 D lo (pIA AC Γ post) (tX AC Γ thr) (wσ AC Γ σ) 5 30 0 [(0, .ref (Γ.ad 0)), (1, .int x1), (2, .int x2), (3, .int x3), (4, .ref (Γ.ad 343))] []
  refine g_aload hX d_W_split_0 4 rfl ?_
  refine g_iconst (v := 0) hX d_W_split_2 (by decide) ?_
  refine g_aload_n hX d_W_split_3 rfl 0 rfl ?_
  refine g_iload_n hX d_W_split_4 rfl 1 rfl ?_
  refine g_iload_n hX d_W_split_5 rfl 2 rfl ?_
  refine g_iload_n hX d_W_split_6 rfl 3 rfl ?_
  refine g_callVH (i := 0) (k := 0) (n := 0) hX (c_LR_split hl h) hdT_LR_split hdO_LR_split t_1 t_602 t_603 t_604 (lt_c (by decide)) rfl (lay_LR (AC := AC) (Γ := Γ)) rfl ⟨⟨by decide, by decide⟩, np_LR_split⟩ ⟨Nat.le_of_ble_eq_true rfl, Nat.le_of_ble_eq_true rfl⟩ (Nat.le_of_ble_eq_true rfl) d_W_split_7 rfl ?_ ?_
  · rintro _ _ ⟨v, Γ1, σ1, rfl, rfl, hA, h⟩
    refine g_i2l hX d_W_split_10 ?_
    refine g_last (i := 343) hX (lt_c (by decide)) (hA 343 (by decide)) (lay_m18 (AC := AC) (Γ := Γ1)) (by unfold vp_in; decide) d_W_split_11 (wσ_m_out _) ?_
    refine g_goto (tgt := 23) hX d_W_split_12 (by decide) ?_
    refine g_iconst (v := 0) hX d_W_split_23 (by decide) ?_
    exact g_iret hX rfl d_W_split_24 ⟨_, _, _, rfl, rfl, hA, h⟩
  · rintro E _ ⟨σ1, rfl, h⟩
    rcases h.2.2 with hE | hE
    · subst hE
      refine gx_catch hX [] ⟨0, 12, 15, 13⟩ [⟨0, 12, 19, 15⟩] rfl (fun z hz => by cases hz) (by decide) (by decide) t_121 n_133 (fun q => ?_)
      have h := h.1 rfl
      refine g_astore hX d_W_split_15 (by decide) rfl ?_
      refine g_iconst (v := 1) hX d_W_split_17 (by decide) ?_
      exact g_iret hX rfl d_W_split_18 ⟨_, _, _, rfl, rfl, fun _ _ => rfl, h⟩
    · subst hE
      refine gx_catch hX [⟨0, 12, 15, 13⟩] ⟨0, 12, 19, 15⟩ [] rfl (fun z hz => by rw [List.mem_singleton.mp hz]; exact Or.inr ⟨by decide, _, t_121, hX.2.1.2.2.2.2.2.1⟩) (by decide) (by decide) t_122 n_214 (fun q => ?_)
      have h := h.2.1 rfl
      refine g_astore hX d_W_split_19 (by decide) rfl ?_
      refine g_iconst (v := 2) hX d_W_split_21 (by decide) ?_
      exact g_iret hX rfl d_W_split_22 ⟨_, _, _, rfl, rfl, fun _ _ => rfl, h⟩

def wp_W_merge (Γ : Ev) (x1 : Int32) (x2 : Int32) (x3 : Int32) (σ : St) (post : Int32 → Ev → St → Prop) : Prop := wp_LR_merge Γ x1 x2 x3 σ (fun v Γ1 σ1 => post (0 : Int32) Γ1 (St.sL σ1 6 (0 : Int32).toNatClampNeg (Int32.toInt64 v))) (fun E σ1 => (E = "java/lang/IllegalArgumentException" → post (1 : Int32) Γ σ1) ∧ (E = "java/lang/IllegalStateException" → post (2 : Int32) Γ σ1) ∧ (E = "java/lang/IllegalArgumentException" ∨ E = "java/lang/IllegalStateException"))
abbrev rm_W_merge : Room := { frames := 8, cells := 6, slots := 36, locals := 179 }
set_option maxRecDepth 100000 in
set_option maxHeartbeats 4000000 in
theorem c_W_merge {l : Launch} {D : va_G} {AC : Nat → ClassId} {lo : Nat} {Γ : Ev} {x1 : Int32} {x2 : Int32} {x3 : Int32} {σ : St} {post : Int32 → Ev → St → Prop} {thr : String → St → Prop} (hl : l.flags = pinnedFlags ++ [noTraceFlag]) (h : wp_W_merge Γ x1 x2 x3 σ post) : Ct l y_W_merge hd_W_merge rm_W_merge D AC lo [.ref (Γ.ad 0), .int x1, .int x2, .int x3, .ref (Γ.ad 343)] (wσ AC Γ σ) (pIA AC Γ post) (tX AC Γ thr) := by
  refine Ct.ofH (by decide) (Nat.le_of_ble_eq_true rfl) ?_
  intro p e s m args below meth c hadm hX
  unfold wp_W_merge at h
  show G p l e rm_W_merge s m args below meth c 6 D lo (pIA AC Γ post) (tX AC Γ thr) (wσ AC Γ σ) 6 36 0 [(0, .ref (Γ.ad 0)), (1, .int x1), (2, .int x2), (3, .int x3), (4, .ref (Γ.ad 343))] []
  refine g_aload hX d_W_merge_0 4 rfl ?_
  refine g_iconst (v := 0) hX d_W_merge_2 (by decide) ?_
  refine g_aload_n hX d_W_merge_3 rfl 0 rfl ?_
  refine g_iload_n hX d_W_merge_4 rfl 1 rfl ?_
  refine g_iload_n hX d_W_merge_5 rfl 2 rfl ?_
  refine g_iload_n hX d_W_merge_6 rfl 3 rfl ?_
  refine g_callVH (i := 0) (k := 0) (n := 0) hX (c_LR_merge hl h) hdT_LR_merge hdO_LR_merge t_1 t_626 t_627 t_628 (lt_c (by decide)) rfl (lay_LR (AC := AC) (Γ := Γ)) rfl ⟨⟨by decide, by decide⟩, np_LR_merge⟩ ⟨Nat.le_of_ble_eq_true rfl, Nat.le_of_ble_eq_true rfl⟩ (Nat.le_of_ble_eq_true rfl) d_W_merge_7 rfl ?_ ?_
  · rintro _ _ ⟨v, Γ1, σ1, rfl, rfl, hA, h⟩
    refine g_i2l hX d_W_merge_10 ?_
    refine g_last (i := 343) hX (lt_c (by decide)) (hA 343 (by decide)) (lay_m18 (AC := AC) (Γ := Γ1)) (by unfold vp_in; decide) d_W_merge_11 (wσ_m_out _) ?_
    refine g_goto (tgt := 23) hX d_W_merge_12 (by decide) ?_
    refine g_iconst (v := 0) hX d_W_merge_23 (by decide) ?_
    exact g_iret hX rfl d_W_merge_24 ⟨_, _, _, rfl, rfl, hA, h⟩
  · rintro E _ ⟨σ1, rfl, h⟩
    rcases h.2.2 with hE | hE
    · subst hE
      refine gx_catch hX [] ⟨0, 12, 15, 13⟩ [⟨0, 12, 19, 15⟩] rfl (fun z hz => by cases hz) (by decide) (by decide) t_121 n_133 (fun q => ?_)
      have h := h.1 rfl
      refine g_astore hX d_W_merge_15 (by decide) rfl ?_
      refine g_iconst (v := 1) hX d_W_merge_17 (by decide) ?_
      exact g_iret hX rfl d_W_merge_18 ⟨_, _, _, rfl, rfl, fun _ _ => rfl, h⟩
    · subst hE
      refine gx_catch hX [⟨0, 12, 15, 13⟩] ⟨0, 12, 19, 15⟩ [] rfl (fun z hz => by rw [List.mem_singleton.mp hz]; exact Or.inr ⟨by decide, _, t_121, hX.2.1.2.2.2.2.2.1⟩) (by decide) (by decide) t_122 n_214 (fun q => ?_)
      have h := h.2.1 rfl
      refine g_astore hX d_W_merge_19 (by decide) rfl ?_
      refine g_iconst (v := 2) hX d_W_merge_21 (by decide) ?_
      exact g_iret hX rfl d_W_merge_22 ⟨_, _, _, rfl, rfl, fun _ _ => rfl, h⟩

def wp_W_day (Γ : Ev)  (σ : St) (post : Int32 → St → Prop) : Prop := wp_LR_day Γ  σ (fun v σ1 => post (0 : Int32) (St.sL σ1 6 (0 : Int32).toNatClampNeg (Int32.toInt64 v))) (fun E σ1 => (E = "java/lang/IllegalStateException" → post (1 : Int32) σ1) ∧ (E = "java/lang/IllegalStateException"))
abbrev rm_W_day : Room := { frames := 7, cells := 1, slots := 6, locals := 152 }
set_option maxRecDepth 100000 in
set_option maxHeartbeats 4000000 in
theorem c_W_day {l : Launch} {D : va_G} {AC : Nat → ClassId} {lo : Nat} {Γ : Ev}  {σ : St} {post : Int32 → St → Prop} {thr : String → St → Prop} (hl : l.flags = pinnedFlags ++ [noTraceFlag]) (h : wp_W_day Γ  σ post) : Ct l y_W_day hd_W_day rm_W_day D AC lo [.ref (Γ.ad 0), .ref (Γ.ad 343)] (wσ AC Γ σ) (pI AC Γ post) (tX AC Γ thr) := by
  refine Ct.ofH (by decide) (Nat.le_of_ble_eq_true rfl) ?_
  intro p e s m args below meth c hadm hX
  unfold wp_W_day at h
  show G p l e rm_W_day s m args below meth c 3 D lo (pI AC Γ post) (tX AC Γ thr) (wσ AC Γ σ) 1 6 0 [(0, .ref (Γ.ad 0)), (1, .ref (Γ.ad 343))] []
  refine g_aload_n hX d_W_day_0 rfl 1 rfl ?_
  refine g_iconst (v := 0) hX d_W_day_1 (by decide) ?_
  refine g_aload_n hX d_W_day_2 rfl 0 rfl ?_
  refine g_callVH (i := 0) (k := 0) (n := 0) hX (c_LR_day hl h) hdT_LR_day hdO_LR_day t_1 t_650 t_651 t_652 (lt_c (by decide)) rfl (lay_LR (AC := AC) (Γ := Γ)) rfl ⟨⟨by decide, by decide⟩, np_LR_day⟩ ⟨Nat.le_of_ble_eq_true rfl, Nat.le_of_ble_eq_true rfl⟩ (Nat.le_of_ble_eq_true rfl) d_W_day_3 rfl ?_ ?_
  · rintro _ _ ⟨v, σ1, rfl, rfl, h⟩
    refine g_i2l hX d_W_day_6 ?_
    refine g_last (i := 343) hX (lt_c (by decide)) rfl (lay_m18 (AC := AC) (Γ := Γ)) (by unfold vp_in; decide) d_W_day_7 (wσ_m_out _) ?_
    refine g_goto (tgt := 14) hX d_W_day_8 (by decide) ?_
    refine g_iconst (v := 0) hX d_W_day_14 (by decide) ?_
    exact g_iret hX rfl d_W_day_15 ⟨_, _, rfl, rfl, h⟩
  · rintro E _ ⟨σ1, rfl, h⟩
    rcases h.2 with hE
    · subst hE
      refine gx_catch hX [] ⟨0, 8, 11, 15⟩ [] rfl (fun z hz => by cases hz) (by decide) (by decide) t_122 n_214 (fun q => ?_)
      have h := h.1 rfl
      refine g_astore_n hX d_W_day_11 rfl (by decide) rfl ?_
      refine g_iconst (v := 1) hX d_W_day_12 (by decide) ?_
      exact g_iret hX rfl d_W_day_13 ⟨_, _, rfl, rfl, h⟩

def wp_W_view (Γ : Ev) (x1 : Int32) (x2 : Int32) (σ : St) (post : Int32 → St → Prop) : Prop := wp_LR_view Γ x1 x2 σ (fun v σ1 => post (0 : Int32) (St.sL σ1 6 (0 : Int32).toNatClampNeg (Int32.toInt64 v))) (fun E σ1 => (E = "java/lang/IllegalArgumentException" → post (1 : Int32) σ1) ∧ (E = "java/lang/IllegalArgumentException"))
abbrev rm_W_view : Room := { frames := 7, cells := 1, slots := 6, locals := 156 }
set_option maxRecDepth 100000 in
set_option maxHeartbeats 4000000 in
theorem c_W_view {l : Launch} {D : va_G} {AC : Nat → ClassId} {lo : Nat} {Γ : Ev} {x1 : Int32} {x2 : Int32} {σ : St} {post : Int32 → St → Prop} {thr : String → St → Prop} (hl : l.flags = pinnedFlags ++ [noTraceFlag]) (h : wp_W_view Γ x1 x2 σ post) : Ct l y_W_view hd_W_view rm_W_view D AC lo [.ref (Γ.ad 0), .int x1, .int x2, .ref (Γ.ad 343)] (wσ AC Γ σ) (pI AC Γ post) (tX AC Γ thr) := by
  refine Ct.ofH (by decide) (Nat.le_of_ble_eq_true rfl) ?_
  intro p e s m args below meth c hadm hX
  unfold wp_W_view at h
  show G p l e rm_W_view s m args below meth c 5 D lo (pI AC Γ post) (tX AC Γ thr) (wσ AC Γ σ) 1 6 0 [(0, .ref (Γ.ad 0)), (1, .int x1), (2, .int x2), (3, .ref (Γ.ad 343))] []
  refine g_aload_n hX d_W_view_0 rfl 3 rfl ?_
  refine g_iconst (v := 0) hX d_W_view_1 (by decide) ?_
  refine g_aload_n hX d_W_view_2 rfl 0 rfl ?_
  refine g_iload_n hX d_W_view_3 rfl 1 rfl ?_
  refine g_iload_n hX d_W_view_4 rfl 2 rfl ?_
  refine g_callVH (i := 0) (k := 0) (n := 0) hX (c_LR_view hl h) hdT_LR_view hdO_LR_view t_1 t_658 t_659 t_660 (lt_c (by decide)) rfl (lay_LR (AC := AC) (Γ := Γ)) rfl ⟨⟨by decide, by decide⟩, np_LR_view⟩ ⟨Nat.le_of_ble_eq_true rfl, Nat.le_of_ble_eq_true rfl⟩ (Nat.le_of_ble_eq_true rfl) d_W_view_5 rfl ?_ ?_
  · rintro _ _ ⟨v, σ1, rfl, rfl, h⟩
    refine g_i2l hX d_W_view_8 ?_
    refine g_last (i := 343) hX (lt_c (by decide)) rfl (lay_m18 (AC := AC) (Γ := Γ)) (by unfold vp_in; decide) d_W_view_9 (wσ_m_out _) ?_
    refine g_goto (tgt := 17) hX d_W_view_10 (by decide) ?_
    refine g_iconst (v := 0) hX d_W_view_17 (by decide) ?_
    exact g_iret hX rfl d_W_view_18 ⟨_, _, rfl, rfl, h⟩
  · rintro E _ ⟨σ1, rfl, h⟩
    rcases h.2 with hE
    · subst hE
      refine gx_catch hX [] ⟨0, 10, 13, 13⟩ [] rfl (fun z hz => by cases hz) (by decide) (by decide) t_121 n_133 (fun q => ?_)
      have h := h.1 rfl
      refine g_astore hX d_W_view_13 (by decide) rfl ?_
      refine g_iconst (v := 1) hX d_W_view_15 (by decide) ?_
      exact g_iret hX rfl d_W_view_16 ⟨_, _, rfl, rfl, h⟩

def wp_W_area (Γ : Ev) (x1 : Int32) (σ : St) (post : Int32 → St → Prop) : Prop := wp_LR_area Γ x1 σ (fun v σ1 => post (0 : Int32) (St.sL σ1 6 (0 : Int32).toNatClampNeg v)) (fun E σ1 => (E = "java/lang/IllegalArgumentException" → post (1 : Int32) σ1) ∧ (E = "java/lang/IllegalArgumentException"))
abbrev rm_W_area : Room := { frames := 8, cells := 1, slots := 6, locals := 142 }
set_option maxRecDepth 100000 in
set_option maxHeartbeats 4000000 in
theorem c_W_area {l : Launch} {D : va_G} {AC : Nat → ClassId} {lo : Nat} {Γ : Ev} {x1 : Int32} {σ : St} {post : Int32 → St → Prop} {thr : String → St → Prop} (hl : l.flags = pinnedFlags ++ [noTraceFlag]) (h : wp_W_area Γ x1 σ post) : Ct l y_W_area hd_W_area rm_W_area D AC lo [.ref (Γ.ad 0), .int x1, .ref (Γ.ad 343)] (wσ AC Γ σ) (pI AC Γ post) (tX AC Γ thr) := by
  refine Ct.ofH (by decide) (Nat.le_of_ble_eq_true rfl) ?_
  intro p e s m args below meth c hadm hX
  unfold wp_W_area at h
  show G p l e rm_W_area s m args below meth c 4 D lo (pI AC Γ post) (tX AC Γ thr) (wσ AC Γ σ) 1 6 0 [(0, .ref (Γ.ad 0)), (1, .int x1), (2, .ref (Γ.ad 343))] []
  refine g_aload_n hX d_W_area_0 rfl 2 rfl ?_
  refine g_iconst (v := 0) hX d_W_area_1 (by decide) ?_
  refine g_aload_n hX d_W_area_2 rfl 0 rfl ?_
  refine g_iload_n hX d_W_area_3 rfl 1 rfl ?_
  refine g_callVH (i := 0) (k := 0) (n := 0) hX (c_LR_area hl h) hdT_LR_area hdO_LR_area t_1 t_666 t_667 t_668 (lt_c (by decide)) rfl (lay_LR (AC := AC) (Γ := Γ)) rfl ⟨⟨by decide, by decide⟩, np_LR_area⟩ ⟨Nat.le_of_ble_eq_true rfl, Nat.le_of_ble_eq_true rfl⟩ (Nat.le_of_ble_eq_true rfl) d_W_area_4 rfl ?_ ?_
  · rintro _ _ ⟨v, σ1, rfl, rfl, h⟩
    refine g_last (i := 343) hX (lt_c (by decide)) rfl (lay_m18 (AC := AC) (Γ := Γ)) (by unfold vp_in; decide) d_W_area_7 (wσ_m_out _) ?_
    refine g_goto (tgt := 14) hX d_W_area_8 (by decide) ?_
    refine g_iconst (v := 0) hX d_W_area_14 (by decide) ?_
    exact g_iret hX rfl d_W_area_15 ⟨_, _, rfl, rfl, h⟩
  · rintro E _ ⟨σ1, rfl, h⟩
    rcases h.2 with hE
    · subst hE
      refine gx_catch hX [] ⟨0, 8, 11, 13⟩ [] rfl (fun z hz => by cases hz) (by decide) (by decide) t_121 n_133 (fun q => ?_)
      have h := h.1 rfl
      refine g_astore_n hX d_W_area_11 rfl (by decide) rfl ?_
      refine g_iconst (v := 1) hX d_W_area_12 (by decide) ?_
      exact g_iret hX rfl d_W_area_13 ⟨_, _, rfl, rfl, h⟩

def wp_W_share (Γ : Ev) (x1 : Int32) (x2 : Int32) (σ : St) (post : Int32 → St → Prop) : Prop := wp_LR_share Γ x1 x2 σ (fun v σ1 => post (0 : Int32) (St.sL σ1 6 (0 : Int32).toNatClampNeg v)) (fun E σ1 => (E = "java/lang/IllegalArgumentException" → post (1 : Int32) σ1) ∧ (E = "java/lang/IllegalArgumentException"))
abbrev rm_W_share : Room := { frames := 8, cells := 2, slots := 12, locals := 143 }
set_option maxRecDepth 100000 in
set_option maxHeartbeats 4000000 in
theorem c_W_share {l : Launch} {D : va_G} {AC : Nat → ClassId} {lo : Nat} {Γ : Ev} {x1 : Int32} {x2 : Int32} {σ : St} {post : Int32 → St → Prop} {thr : String → St → Prop} (hl : l.flags = pinnedFlags ++ [noTraceFlag]) (h : wp_W_share Γ x1 x2 σ post) : Ct l y_W_share hd_W_share rm_W_share D AC lo [.ref (Γ.ad 0), .int x1, .int x2, .ref (Γ.ad 343)] (wσ AC Γ σ) (pI AC Γ post) (tX AC Γ thr) := by
  refine Ct.ofH (by decide) (Nat.le_of_ble_eq_true rfl) ?_
  intro p e s m args below meth c hadm hX
  unfold wp_W_share at h
  show G p l e rm_W_share s m args below meth c 5 D lo (pI AC Γ post) (tX AC Γ thr) (wσ AC Γ σ) 2 12 0 [(0, .ref (Γ.ad 0)), (1, .int x1), (2, .int x2), (3, .ref (Γ.ad 343))] []
  refine g_aload_n hX d_W_share_0 rfl 3 rfl ?_
  refine g_iconst (v := 0) hX d_W_share_1 (by decide) ?_
  refine g_aload_n hX d_W_share_2 rfl 0 rfl ?_
  refine g_iload_n hX d_W_share_3 rfl 1 rfl ?_
  refine g_iload_n hX d_W_share_4 rfl 2 rfl ?_
  refine g_callVH (i := 0) (k := 0) (n := 0) hX (c_LR_share hl h) hdT_LR_share hdO_LR_share t_1 t_673 t_674 t_675 (lt_c (by decide)) rfl (lay_LR (AC := AC) (Γ := Γ)) rfl ⟨⟨by decide, by decide⟩, np_LR_share⟩ ⟨Nat.le_of_ble_eq_true rfl, Nat.le_of_ble_eq_true rfl⟩ (Nat.le_of_ble_eq_true rfl) d_W_share_5 rfl ?_ ?_
  · rintro _ _ ⟨v, σ1, rfl, rfl, h⟩
    refine g_last (i := 343) hX (lt_c (by decide)) rfl (lay_m18 (AC := AC) (Γ := Γ)) (by unfold vp_in; decide) d_W_share_8 (wσ_m_out _) ?_
    refine g_goto (tgt := 16) hX d_W_share_9 (by decide) ?_
    refine g_iconst (v := 0) hX d_W_share_16 (by decide) ?_
    exact g_iret hX rfl d_W_share_17 ⟨_, _, rfl, rfl, h⟩
  · rintro E _ ⟨σ1, rfl, h⟩
    rcases h.2 with hE
    · subst hE
      refine gx_catch hX [] ⟨0, 9, 12, 13⟩ [] rfl (fun z hz => by cases hz) (by decide) (by decide) t_121 n_133 (fun q => ?_)
      have h := h.1 rfl
      refine g_astore hX d_W_share_12 (by decide) rfl ?_
      refine g_iconst (v := 1) hX d_W_share_14 (by decide) ?_
      exact g_iret hX rfl d_W_share_15 ⟨_, _, rfl, rfl, h⟩

def wp_W_mortgage (Γ : Ev) (x1 : Int32) (x2 : Int32) (x3 : Int32) (σ : St) (post : Int32 → St → Prop) : Prop := wp_LR_mortgage Γ x1 x2 x3 σ (fun v σ1 => post (0 : Int32) (St.sL σ1 6 (0 : Int32).toNatClampNeg (Int32.toInt64 v))) (fun E σ1 => (E = "java/lang/IllegalArgumentException" → post (1 : Int32) σ1) ∧ (E = "java/lang/IllegalArgumentException"))
abbrev rm_W_mortgage : Room := { frames := 8, cells := 1, slots := 6, locals := 144 }
set_option maxRecDepth 100000 in
set_option maxHeartbeats 4000000 in
theorem c_W_mortgage {l : Launch} {D : va_G} {AC : Nat → ClassId} {lo : Nat} {Γ : Ev} {x1 : Int32} {x2 : Int32} {x3 : Int32} {σ : St} {post : Int32 → St → Prop} {thr : String → St → Prop} (hl : l.flags = pinnedFlags ++ [noTraceFlag]) (h : wp_W_mortgage Γ x1 x2 x3 σ post) : Ct l y_W_mortgage hd_W_mortgage rm_W_mortgage D AC lo [.ref (Γ.ad 0), .int x1, .int x2, .int x3, .ref (Γ.ad 343)] (wσ AC Γ σ) (pI AC Γ post) (tX AC Γ thr) := by
  refine Ct.ofH (by decide) (Nat.le_of_ble_eq_true rfl) ?_
  intro p e s m args below meth c hadm hX
  unfold wp_W_mortgage at h
  show G p l e rm_W_mortgage s m args below meth c 6 D lo (pI AC Γ post) (tX AC Γ thr) (wσ AC Γ σ) 1 6 0 [(0, .ref (Γ.ad 0)), (1, .int x1), (2, .int x2), (3, .int x3), (4, .ref (Γ.ad 343))] []
  refine g_aload hX d_W_mortgage_0 4 rfl ?_
  refine g_iconst (v := 0) hX d_W_mortgage_2 (by decide) ?_
  refine g_aload_n hX d_W_mortgage_3 rfl 0 rfl ?_
  refine g_iload_n hX d_W_mortgage_4 rfl 1 rfl ?_
  refine g_iload_n hX d_W_mortgage_5 rfl 2 rfl ?_
  refine g_iload_n hX d_W_mortgage_6 rfl 3 rfl ?_
  refine g_callVH (i := 0) (k := 0) (n := 0) hX (c_LR_mortgage hl h) hdT_LR_mortgage hdO_LR_mortgage t_1 t_680 t_681 t_682 (lt_c (by decide)) rfl (lay_LR (AC := AC) (Γ := Γ)) rfl ⟨⟨by decide, by decide⟩, np_LR_mortgage⟩ ⟨Nat.le_of_ble_eq_true rfl, Nat.le_of_ble_eq_true rfl⟩ (Nat.le_of_ble_eq_true rfl) d_W_mortgage_7 rfl ?_ ?_
  · rintro _ _ ⟨v, σ1, rfl, rfl, h⟩
    refine g_i2l hX d_W_mortgage_10 ?_
    refine g_last (i := 343) hX (lt_c (by decide)) rfl (lay_m18 (AC := AC) (Γ := Γ)) (by unfold vp_in; decide) d_W_mortgage_11 (wσ_m_out _) ?_
    refine g_goto (tgt := 19) hX d_W_mortgage_12 (by decide) ?_
    refine g_iconst (v := 0) hX d_W_mortgage_19 (by decide) ?_
    exact g_iret hX rfl d_W_mortgage_20 ⟨_, _, rfl, rfl, h⟩
  · rintro E _ ⟨σ1, rfl, h⟩
    rcases h.2 with hE
    · subst hE
      refine gx_catch hX [] ⟨0, 12, 15, 13⟩ [] rfl (fun z hz => by cases hz) (by decide) (by decide) t_121 n_133 (fun q => ?_)
      have h := h.1 rfl
      refine g_astore hX d_W_mortgage_15 (by decide) rfl ?_
      refine g_iconst (v := 1) hX d_W_mortgage_17 (by decide) ?_
      exact g_iret hX rfl d_W_mortgage_18 ⟨_, _, rfl, rfl, h⟩

def wp_W_cautions (Γ : Ev) (x1 : Int32) (σ : St) (post : Int32 → St → Prop) : Prop := wp_LR_cautions Γ x1 σ (fun v σ1 => post (0 : Int32) (St.sL σ1 6 (0 : Int32).toNatClampNeg (Int32.toInt64 v))) (fun E σ1 => (E = "java/lang/IllegalArgumentException" → post (1 : Int32) σ1) ∧ (E = "java/lang/IllegalArgumentException"))
abbrev rm_W_cautions : Room := { frames := 8, cells := 1, slots := 6, locals := 142 }
set_option maxRecDepth 100000 in
set_option maxHeartbeats 4000000 in
theorem c_W_cautions {l : Launch} {D : va_G} {AC : Nat → ClassId} {lo : Nat} {Γ : Ev} {x1 : Int32} {σ : St} {post : Int32 → St → Prop} {thr : String → St → Prop} (hl : l.flags = pinnedFlags ++ [noTraceFlag]) (h : wp_W_cautions Γ x1 σ post) : Ct l y_W_cautions hd_W_cautions rm_W_cautions D AC lo [.ref (Γ.ad 0), .int x1, .ref (Γ.ad 343)] (wσ AC Γ σ) (pI AC Γ post) (tX AC Γ thr) := by
  refine Ct.ofH (by decide) (Nat.le_of_ble_eq_true rfl) ?_
  intro p e s m args below meth c hadm hX
  unfold wp_W_cautions at h
  show G p l e rm_W_cautions s m args below meth c 4 D lo (pI AC Γ post) (tX AC Γ thr) (wσ AC Γ σ) 1 6 0 [(0, .ref (Γ.ad 0)), (1, .int x1), (2, .ref (Γ.ad 343))] []
  refine g_aload_n hX d_W_cautions_0 rfl 2 rfl ?_
  refine g_iconst (v := 0) hX d_W_cautions_1 (by decide) ?_
  refine g_aload_n hX d_W_cautions_2 rfl 0 rfl ?_
  refine g_iload_n hX d_W_cautions_3 rfl 1 rfl ?_
  refine g_callVH (i := 0) (k := 0) (n := 0) hX (c_LR_cautions hl h) hdT_LR_cautions hdO_LR_cautions t_1 t_687 t_688 t_689 (lt_c (by decide)) rfl (lay_LR (AC := AC) (Γ := Γ)) rfl ⟨⟨by decide, by decide⟩, np_LR_cautions⟩ ⟨Nat.le_of_ble_eq_true rfl, Nat.le_of_ble_eq_true rfl⟩ (Nat.le_of_ble_eq_true rfl) d_W_cautions_4 rfl ?_ ?_
  · rintro _ _ ⟨v, σ1, rfl, rfl, h⟩
    refine g_i2l hX d_W_cautions_7 ?_
    refine g_last (i := 343) hX (lt_c (by decide)) rfl (lay_m18 (AC := AC) (Γ := Γ)) (by unfold vp_in; decide) d_W_cautions_8 (wσ_m_out _) ?_
    refine g_goto (tgt := 15) hX d_W_cautions_9 (by decide) ?_
    refine g_iconst (v := 0) hX d_W_cautions_15 (by decide) ?_
    exact g_iret hX rfl d_W_cautions_16 ⟨_, _, rfl, rfl, h⟩
  · rintro E _ ⟨σ1, rfl, h⟩
    rcases h.2 with hE
    · subst hE
      refine gx_catch hX [] ⟨0, 9, 12, 13⟩ [] rfl (fun z hz => by cases hz) (by decide) (by decide) t_121 n_133 (fun q => ?_)
      have h := h.1 rfl
      refine g_astore_n hX d_W_cautions_12 rfl (by decide) rfl ?_
      refine g_iconst (v := 1) hX d_W_cautions_13 (by decide) ?_
      exact g_iret hX rfl d_W_cautions_14 ⟨_, _, rfl, rfl, h⟩

def wp_W_origin (Γ : Ev) (x1 : Int32) (x2 : Int32) (σ : St) (post : Int32 → St → Prop) : Prop := wp_LR_origin Γ x1 x2 σ (fun v σ1 => post (0 : Int32) (St.sL σ1 6 (0 : Int32).toNatClampNeg (Int32.toInt64 v))) (fun E σ1 => (E = "java/lang/IllegalArgumentException" → post (1 : Int32) σ1) ∧ (E = "java/lang/IllegalArgumentException"))
abbrev rm_W_origin : Room := { frames := 8, cells := 1, slots := 6, locals := 143 }
set_option maxRecDepth 100000 in
set_option maxHeartbeats 4000000 in
theorem c_W_origin {l : Launch} {D : va_G} {AC : Nat → ClassId} {lo : Nat} {Γ : Ev} {x1 : Int32} {x2 : Int32} {σ : St} {post : Int32 → St → Prop} {thr : String → St → Prop} (hl : l.flags = pinnedFlags ++ [noTraceFlag]) (h : wp_W_origin Γ x1 x2 σ post) : Ct l y_W_origin hd_W_origin rm_W_origin D AC lo [.ref (Γ.ad 0), .int x1, .int x2, .ref (Γ.ad 343)] (wσ AC Γ σ) (pI AC Γ post) (tX AC Γ thr) := by
  refine Ct.ofH (by decide) (Nat.le_of_ble_eq_true rfl) ?_
  intro p e s m args below meth c hadm hX
  unfold wp_W_origin at h
  show G p l e rm_W_origin s m args below meth c 5 D lo (pI AC Γ post) (tX AC Γ thr) (wσ AC Γ σ) 1 6 0 [(0, .ref (Γ.ad 0)), (1, .int x1), (2, .int x2), (3, .ref (Γ.ad 343))] []
  refine g_aload_n hX d_W_origin_0 rfl 3 rfl ?_
  refine g_iconst (v := 0) hX d_W_origin_1 (by decide) ?_
  refine g_aload_n hX d_W_origin_2 rfl 0 rfl ?_
  refine g_iload_n hX d_W_origin_3 rfl 1 rfl ?_
  refine g_iload_n hX d_W_origin_4 rfl 2 rfl ?_
  refine g_callVH (i := 0) (k := 0) (n := 0) hX (c_LR_origin hl h) hdT_LR_origin hdO_LR_origin t_1 t_694 t_695 t_696 (lt_c (by decide)) rfl (lay_LR (AC := AC) (Γ := Γ)) rfl ⟨⟨by decide, by decide⟩, np_LR_origin⟩ ⟨Nat.le_of_ble_eq_true rfl, Nat.le_of_ble_eq_true rfl⟩ (Nat.le_of_ble_eq_true rfl) d_W_origin_5 rfl ?_ ?_
  · rintro _ _ ⟨v, σ1, rfl, rfl, h⟩
    refine g_i2l hX d_W_origin_8 ?_
    refine g_last (i := 343) hX (lt_c (by decide)) rfl (lay_m18 (AC := AC) (Γ := Γ)) (by unfold vp_in; decide) d_W_origin_9 (wσ_m_out _) ?_
    refine g_goto (tgt := 17) hX d_W_origin_10 (by decide) ?_
    refine g_iconst (v := 0) hX d_W_origin_17 (by decide) ?_
    exact g_iret hX rfl d_W_origin_18 ⟨_, _, rfl, rfl, h⟩
  · rintro E _ ⟨σ1, rfl, h⟩
    rcases h.2 with hE
    · subst hE
      refine gx_catch hX [] ⟨0, 10, 13, 13⟩ [] rfl (fun z hz => by cases hz) (by decide) (by decide) t_121 n_133 (fun q => ?_)
      have h := h.1 rfl
      refine g_astore hX d_W_origin_13 (by decide) rfl ?_
      refine g_iconst (v := 1) hX d_W_origin_15 (by decide) ?_
      exact g_iret hX rfl d_W_origin_16 ⟨_, _, rfl, rfl, h⟩

def wp_W_holding (Γ : Ev) (x1 : Int32) (x2 : Int32) (σ : St) (post : Int32 → St → Prop) : Prop := wp_LR_holding Γ x1 x2 σ (fun v σ1 => post (0 : Int32) (St.sL σ1 6 (0 : Int32).toNatClampNeg (Int32.toInt64 v))) (fun E σ1 => (E = "java/lang/IllegalArgumentException" → post (1 : Int32) σ1) ∧ (E = "java/lang/IllegalArgumentException"))
abbrev rm_W_holding : Room := { frames := 8, cells := 1, slots := 6, locals := 144 }
set_option maxRecDepth 100000 in
set_option maxHeartbeats 4000000 in
theorem c_W_holding {l : Launch} {D : va_G} {AC : Nat → ClassId} {lo : Nat} {Γ : Ev} {x1 : Int32} {x2 : Int32} {σ : St} {post : Int32 → St → Prop} {thr : String → St → Prop} (hl : l.flags = pinnedFlags ++ [noTraceFlag]) (h : wp_W_holding Γ x1 x2 σ post) : Ct l y_W_holding hd_W_holding rm_W_holding D AC lo [.ref (Γ.ad 0), .int x1, .int x2, .ref (Γ.ad 343)] (wσ AC Γ σ) (pI AC Γ post) (tX AC Γ thr) := by
  refine Ct.ofH (by decide) (Nat.le_of_ble_eq_true rfl) ?_
  intro p e s m args below meth c hadm hX
  unfold wp_W_holding at h
  show G p l e rm_W_holding s m args below meth c 5 D lo (pI AC Γ post) (tX AC Γ thr) (wσ AC Γ σ) 1 6 0 [(0, .ref (Γ.ad 0)), (1, .int x1), (2, .int x2), (3, .ref (Γ.ad 343))] []
  refine g_aload_n hX d_W_holding_0 rfl 3 rfl ?_
  refine g_iconst (v := 0) hX d_W_holding_1 (by decide) ?_
  refine g_aload_n hX d_W_holding_2 rfl 0 rfl ?_
  refine g_iload_n hX d_W_holding_3 rfl 1 rfl ?_
  refine g_iload_n hX d_W_holding_4 rfl 2 rfl ?_
  refine g_callVH (i := 0) (k := 0) (n := 0) hX (c_LR_holding hl h) hdT_LR_holding hdO_LR_holding t_1 t_701 t_702 t_703 (lt_c (by decide)) rfl (lay_LR (AC := AC) (Γ := Γ)) rfl ⟨⟨by decide, by decide⟩, np_LR_holding⟩ ⟨Nat.le_of_ble_eq_true rfl, Nat.le_of_ble_eq_true rfl⟩ (Nat.le_of_ble_eq_true rfl) d_W_holding_5 rfl ?_ ?_
  · rintro _ _ ⟨v, σ1, rfl, rfl, h⟩
    refine g_i2l hX d_W_holding_8 ?_
    refine g_last (i := 343) hX (lt_c (by decide)) rfl (lay_m18 (AC := AC) (Γ := Γ)) (by unfold vp_in; decide) d_W_holding_9 (wσ_m_out _) ?_
    refine g_goto (tgt := 17) hX d_W_holding_10 (by decide) ?_
    refine g_iconst (v := 0) hX d_W_holding_17 (by decide) ?_
    exact g_iret hX rfl d_W_holding_18 ⟨_, _, rfl, rfl, h⟩
  · rintro E _ ⟨σ1, rfl, h⟩
    rcases h.2 with hE
    · subst hE
      refine gx_catch hX [] ⟨0, 10, 13, 13⟩ [] rfl (fun z hz => by cases hz) (by decide) (by decide) t_121 n_133 (fun q => ?_)
      have h := h.1 rfl
      refine g_astore hX d_W_holding_13 (by decide) rfl ?_
      refine g_iconst (v := 1) hX d_W_holding_15 (by decide) ?_
      exact g_iret hX rfl d_W_holding_16 ⟨_, _, rfl, rfl, h⟩

def wp_W_owed (Γ : Ev) (x1 : Int32) (σ : St) (post : Int32 → St → Prop) : Prop := wp_LR_owed Γ x1 σ (fun v σ1 => post (0 : Int32) (St.sL σ1 6 (0 : Int32).toNatClampNeg v)) (fun E σ1 => (E = "java/lang/IllegalArgumentException" → post (1 : Int32) σ1) ∧ (E = "java/lang/IllegalArgumentException"))
abbrev rm_W_owed : Room := { frames := 8, cells := 1, slots := 6, locals := 144 }
set_option maxRecDepth 100000 in
set_option maxHeartbeats 4000000 in
theorem c_W_owed {l : Launch} {D : va_G} {AC : Nat → ClassId} {lo : Nat} {Γ : Ev} {x1 : Int32} {σ : St} {post : Int32 → St → Prop} {thr : String → St → Prop} (hl : l.flags = pinnedFlags ++ [noTraceFlag]) (h : wp_W_owed Γ x1 σ post) : Ct l y_W_owed hd_W_owed rm_W_owed D AC lo [.ref (Γ.ad 0), .int x1, .ref (Γ.ad 343)] (wσ AC Γ σ) (pI AC Γ post) (tX AC Γ thr) := by
  refine Ct.ofH (by decide) (Nat.le_of_ble_eq_true rfl) ?_
  intro p e s m args below meth c hadm hX
  unfold wp_W_owed at h
  show G p l e rm_W_owed s m args below meth c 4 D lo (pI AC Γ post) (tX AC Γ thr) (wσ AC Γ σ) 1 6 0 [(0, .ref (Γ.ad 0)), (1, .int x1), (2, .ref (Γ.ad 343))] []
  refine g_aload_n hX d_W_owed_0 rfl 2 rfl ?_
  refine g_iconst (v := 0) hX d_W_owed_1 (by decide) ?_
  refine g_aload_n hX d_W_owed_2 rfl 0 rfl ?_
  refine g_iload_n hX d_W_owed_3 rfl 1 rfl ?_
  refine g_callVH (i := 0) (k := 0) (n := 0) hX (c_LR_owed hl h) hdT_LR_owed hdO_LR_owed t_1 t_708 t_709 t_710 (lt_c (by decide)) rfl (lay_LR (AC := AC) (Γ := Γ)) rfl ⟨⟨by decide, by decide⟩, np_LR_owed⟩ ⟨Nat.le_of_ble_eq_true rfl, Nat.le_of_ble_eq_true rfl⟩ (Nat.le_of_ble_eq_true rfl) d_W_owed_4 rfl ?_ ?_
  · rintro _ _ ⟨v, σ1, rfl, rfl, h⟩
    refine g_last (i := 343) hX (lt_c (by decide)) rfl (lay_m18 (AC := AC) (Γ := Γ)) (by unfold vp_in; decide) d_W_owed_7 (wσ_m_out _) ?_
    refine g_goto (tgt := 14) hX d_W_owed_8 (by decide) ?_
    refine g_iconst (v := 0) hX d_W_owed_14 (by decide) ?_
    exact g_iret hX rfl d_W_owed_15 ⟨_, _, rfl, rfl, h⟩
  · rintro E _ ⟨σ1, rfl, h⟩
    rcases h.2 with hE
    · subst hE
      refine gx_catch hX [] ⟨0, 8, 11, 13⟩ [] rfl (fun z hz => by cases hz) (by decide) (by decide) t_121 n_133 (fun q => ?_)
      have h := h.1 rfl
      refine g_astore_n hX d_W_owed_11 rfl (by decide) rfl ?_
      refine g_iconst (v := 1) hX d_W_owed_12 (by decide) ?_
      exact g_iret hX rfl d_W_owed_13 ⟨_, _, rfl, rfl, h⟩

def wp_W_state (Γ : Ev) (x1 : Int32) (σ : St) (post : Int32 → St → Prop) : Prop := wp_LR_state Γ x1 σ (fun v σ1 => post (0 : Int32) (St.sL σ1 6 (0 : Int32).toNatClampNeg (Int32.toInt64 v))) (fun E σ1 => (E = "java/lang/IndexOutOfBoundsException" → post (1 : Int32) σ1) ∧ (E = "java/lang/IndexOutOfBoundsException"))
abbrev rm_W_state : Room := { frames := 7, cells := 1, slots := 6, locals := 121 }
set_option maxRecDepth 100000 in
set_option maxHeartbeats 4000000 in
theorem c_W_state {l : Launch} {D : va_G} {AC : Nat → ClassId} {lo : Nat} {Γ : Ev} {x1 : Int32} {σ : St} {post : Int32 → St → Prop} {thr : String → St → Prop} (hl : l.flags = pinnedFlags ++ [noTraceFlag]) (h : wp_W_state Γ x1 σ post) : Ct l y_W_state hd_W_state rm_W_state D AC lo [.ref (Γ.ad 0), .int x1, .ref (Γ.ad 343)] (wσ AC Γ σ) (pI AC Γ post) (tX AC Γ thr) := by
  refine Ct.ofH (by decide) (Nat.le_of_ble_eq_true rfl) ?_
  intro p e s m args below meth c hadm hX
  unfold wp_W_state at h
  show G p l e rm_W_state s m args below meth c 4 D lo (pI AC Γ post) (tX AC Γ thr) (wσ AC Γ σ) 1 6 0 [(0, .ref (Γ.ad 0)), (1, .int x1), (2, .ref (Γ.ad 343))] []
  refine g_aload_n hX d_W_state_0 rfl 2 rfl ?_
  refine g_iconst (v := 0) hX d_W_state_1 (by decide) ?_
  refine g_aload_n hX d_W_state_2 rfl 0 rfl ?_
  refine g_iload_n hX d_W_state_3 rfl 1 rfl ?_
  refine g_callVH (i := 0) (k := 0) (n := 0) hX (c_LR_state hl h) hdT_LR_state hdO_LR_state t_1 t_720 t_721 t_722 (lt_c (by decide)) rfl (lay_LR (AC := AC) (Γ := Γ)) rfl ⟨⟨by decide, by decide⟩, np_LR_state⟩ ⟨Nat.le_of_ble_eq_true rfl, Nat.le_of_ble_eq_true rfl⟩ (Nat.le_of_ble_eq_true rfl) d_W_state_4 rfl ?_ ?_
  · rintro _ _ ⟨v, σ1, rfl, rfl, h⟩
    refine g_i2l hX d_W_state_7 ?_
    refine g_last (i := 343) hX (lt_c (by decide)) rfl (lay_m18 (AC := AC) (Γ := Γ)) (by unfold vp_in; decide) d_W_state_8 (wσ_m_out _) ?_
    refine g_goto (tgt := 15) hX d_W_state_9 (by decide) ?_
    refine g_iconst (v := 0) hX d_W_state_15 (by decide) ?_
    exact g_iret hX rfl d_W_state_16 ⟨_, _, rfl, rfl, h⟩
  · rintro E _ ⟨σ1, rfl, h⟩
    rcases h.2 with hE
    · subst hE
      refine gx_catch hX [] ⟨0, 9, 12, 79⟩ [] rfl (fun z hz => by cases hz) (by decide) (by decide) t_719 n_726 (fun q => ?_)
      have h := h.1 rfl
      refine g_astore_n hX d_W_state_12 rfl (by decide) rfl ?_
      refine g_iconst (v := 1) hX d_W_state_13 (by decide) ?_
      exact g_iret hX rfl d_W_state_14 ⟨_, _, rfl, rfl, h⟩
