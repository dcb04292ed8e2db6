def wp_LR_requireFactDay_12 (Γ : Ev)  (post : St → Prop) (thr : String → St → Prop)  (σ : St) : Prop := thr "java/lang/IllegalArgumentException" (σ)
def wp_LR_requireFactDay (Γ : Ev) (x1 : Int32) (σ : St) (post : St → Prop) (thr : String → St → Prop) : Prop := ((x1 < 0 → wp_LR_requireFactDay_12 Γ  post thr  (σ)) ∧ (¬ x1 < 0 → ((x1 ≤ (St.I (σ) 0 1) → post (σ)) ∧ (¬ x1 ≤ (St.I (σ) 0 1) → wp_LR_requireFactDay_12 Γ  post thr  (σ)))))
abbrev rm_LR_requireFactDay : Room := { frames := 6, cells := 1, slots := 6, locals := 100 }
set_option maxRecDepth 100000 in
set_option maxHeartbeats 4000000 in
theorem b_LR_requireFactDay_12 {p : Program} {l : Launch} {e : Env} {s : State} {m : MethodId} {args : Array Value} {below : List Frame} {meth : Method} {c : Code} {D : va_G} {AC : Nat → ClassId} {lo : Nat} {Γ : Ev} {post : St → Prop} {thr : String → St → Prop} (hX : Cx p s m args meth c y_LR_requireFactDay b_LR_requireFactDay 2 none [] D AC lo) (hl : l.flags = pinnedFlags ++ [noTraceFlag])    (σ : St) (h : wp_LR_requireFactDay_12 Γ  post thr  σ) : G p l e rm_LR_requireFactDay s m args below meth c 2 D lo (pV AC Γ post) (tX AC Γ thr) (wσ AC Γ (σ)) 1 6 12 [] [] := by
  unfold wp_LR_requireFactDay_12 at h
  exact g_throw (names := upX) hX hl fit_IllegalArgumentException fit_up all_IllegalArgumentException t_131 t_7 (str_in (own := "LandRegister") (k := 155) (tx := "a fact day is 0 .. today") (by decide +kernel)) d_LR_requireFactDay_12 d_LR_requireFactDay_15 d_LR_requireFactDay_16 d_LR_requireFactDay_18 d_LR_requireFactDay_21 (Nat.le_of_ble_eq_true rfl) (Nat.le_of_ble_eq_true rfl) ⟨_, rfl, h⟩
set_option maxRecDepth 100000 in
set_option maxHeartbeats 4000000 in
theorem c_LR_requireFactDay {l : Launch} {D : va_G} {AC : Nat → ClassId} {lo : Nat} {Γ : Ev} {x1 : Int32} {σ : St} {post : St → Prop} {thr : String → St → Prop} (hl : l.flags = pinnedFlags ++ [noTraceFlag]) (h : wp_LR_requireFactDay Γ x1 σ post thr) : Ct l y_LR_requireFactDay hd_LR_requireFactDay rm_LR_requireFactDay D AC lo [.ref (Γ.ad 0), .int (x1)] (wσ AC Γ σ) (pV AC Γ post) (tX AC Γ thr) := by
  refine Ct.of (by decide) (Nat.le_of_ble_eq_true rfl) ?_
  intro p e s m args below meth c hadm hX
  unfold wp_LR_requireFactDay at h
  show G p l e rm_LR_requireFactDay s m args below meth c 2 D lo (pV AC Γ post) (tX AC Γ thr) (wσ AC Γ (σ)) 1 6 0 [(0, .ref (Γ.ad 0)), (1, .int (x1))] []
  refine g_iload_n hX d_LR_requireFactDay_0 rfl 1 rfl ?_
  refine g_if_lt (tgt := 12) hX d_LR_requireFactDay_1 (by decide) (fun q1 => ?_) (fun q1 => ?_)
  · have h := h.1 q1
    refine g_sub [] rfl ?_
    exact b_LR_requireFactDay_12 hX hl   _ h
  · have h := h.2 q1
    refine g_iload_n hX d_LR_requireFactDay_4 rfl 1 rfl ?_
    refine g_aload_n hX d_LR_requireFactDay_5 rfl 0 rfl ?_
    refine g_getf (i := 0) (kf := 4) hX (lt_c (by decide)) rfl (lay_LR (AC := AC) (Γ := Γ)) rfl in_LR (by decide) t_102 (Or.inl rfl) rfl d_LR_requireFactDay_6 ?_
    refine g_icmp_le (tgt := 22) hX d_LR_requireFactDay_9 (by decide) (fun q2 => ?_) (fun q2 => ?_)
    · have h := h.1 q2
      exact g_vret hX rfl d_LR_requireFactDay_22 ⟨_, rfl, rfl, h⟩
    · have h := h.2 q2
      refine g_sub [] rfl ?_
      exact b_LR_requireFactDay_12 hX hl   _ h

def wp_LR_requirePerson_10 (Γ : Ev)  (post : St → Prop) (thr : String → St → Prop)  (σ : St) : Prop := thr "java/lang/IllegalArgumentException" (σ)
def wp_LR_requirePerson (Γ : Ev) (x0 : Int32) (σ : St) (post : St → Prop) (thr : String → St → Prop) : Prop := ((x0 < 0 → wp_LR_requirePerson_10 Γ  post thr  (σ)) ∧ (¬ x0 < 0 → ((x0 < (8 : Int32) → post (σ)) ∧ (¬ x0 < (8 : Int32) → wp_LR_requirePerson_10 Γ  post thr  (σ)))))
abbrev rm_LR_requirePerson : Room := { frames := 6, cells := 1, slots := 6, locals := 100 }
set_option maxRecDepth 100000 in
set_option maxHeartbeats 4000000 in
theorem b_LR_requirePerson_10 {p : Program} {l : Launch} {e : Env} {s : State} {m : MethodId} {args : Array Value} {below : List Frame} {meth : Method} {c : Code} {D : va_G} {AC : Nat → ClassId} {lo : Nat} {Γ : Ev} {post : St → Prop} {thr : String → St → Prop} (hX : Cx p s m args meth c y_LR_requirePerson b_LR_requirePerson 1 none [] D AC lo) (hl : l.flags = pinnedFlags ++ [noTraceFlag])    (σ : St) (h : wp_LR_requirePerson_10 Γ  post thr  σ) : G p l e rm_LR_requirePerson s m args below meth c 1 D lo (pV AC Γ post) (tX AC Γ thr) (wσ AC Γ (σ)) 1 6 10 [] [] := by
  unfold wp_LR_requirePerson_10 at h
  exact g_throw (names := upX) hX hl fit_IllegalArgumentException fit_up all_IllegalArgumentException t_131 t_7 (str_in (own := "LandRegister") (k := 157) (tx := "a person is 0 .. 7") (by decide +kernel)) d_LR_requirePerson_10 d_LR_requirePerson_13 d_LR_requirePerson_14 d_LR_requirePerson_16 d_LR_requirePerson_19 (Nat.le_of_ble_eq_true rfl) (Nat.le_of_ble_eq_true rfl) ⟨_, rfl, h⟩
set_option maxRecDepth 100000 in
set_option maxHeartbeats 4000000 in
theorem c_LR_requirePerson {l : Launch} {D : va_G} {AC : Nat → ClassId} {lo : Nat} {Γ : Ev} {x0 : Int32} {σ : St} {post : St → Prop} {thr : String → St → Prop} (hl : l.flags = pinnedFlags ++ [noTraceFlag]) (h : wp_LR_requirePerson Γ x0 σ post thr) : Ct l y_LR_requirePerson hd_LR_requirePerson rm_LR_requirePerson D AC lo [.int (x0)] (wσ AC Γ σ) (pV AC Γ post) (tX AC Γ thr) := by
  refine Ct.of (by decide) (Nat.le_of_ble_eq_true rfl) ?_
  intro p e s m args below meth c hadm hX
  unfold wp_LR_requirePerson at h
  show G p l e rm_LR_requirePerson s m args below meth c 1 D lo (pV AC Γ post) (tX AC Γ thr) (wσ AC Γ (σ)) 1 6 0 [(0, .int (x0))] []
  refine g_iload_n hX d_LR_requirePerson_0 rfl 0 rfl ?_
  refine g_if_lt (tgt := 10) hX d_LR_requirePerson_1 (by decide) (fun q1 => ?_) (fun q1 => ?_)
  · have h := h.1 q1
    refine g_sub [] rfl ?_
    exact b_LR_requirePerson_10 hX hl   _ h
  · have h := h.2 q1
    refine g_iload_n hX d_LR_requirePerson_4 rfl 0 rfl ?_
    refine g_bipush (v := 8) hX d_LR_requirePerson_5 (by decide) ?_
    refine g_icmp_lt (tgt := 20) hX d_LR_requirePerson_7 (by decide) (fun q2 => ?_) (fun q2 => ?_)
    · have h := h.1 q2
      exact g_vret hX rfl d_LR_requirePerson_20 ⟨_, rfl, rfl, h⟩
    · have h := h.2 q2
      refine g_sub [] rfl ?_
      exact b_LR_requirePerson_10 hX hl   _ h

def wp_LR_requireParcel_10 (Γ : Ev)  (post : St → Prop) (thr : String → St → Prop)  (σ : St) : Prop := thr "java/lang/IllegalArgumentException" (σ)
def wp_LR_requireParcel (Γ : Ev) (x0 : Int32) (σ : St) (post : St → Prop) (thr : String → St → Prop) : Prop := ((x0 < 0 → wp_LR_requireParcel_10 Γ  post thr  (σ)) ∧ (¬ x0 < 0 → ((x0 < (80 : Int32) → post (σ)) ∧ (¬ x0 < (80 : Int32) → wp_LR_requireParcel_10 Γ  post thr  (σ)))))
abbrev rm_LR_requireParcel : Room := { frames := 6, cells := 1, slots := 6, locals := 100 }
set_option maxRecDepth 100000 in
set_option maxHeartbeats 4000000 in
theorem b_LR_requireParcel_10 {p : Program} {l : Launch} {e : Env} {s : State} {m : MethodId} {args : Array Value} {below : List Frame} {meth : Method} {c : Code} {D : va_G} {AC : Nat → ClassId} {lo : Nat} {Γ : Ev} {post : St → Prop} {thr : String → St → Prop} (hX : Cx p s m args meth c y_LR_requireParcel b_LR_requireParcel 1 none [] D AC lo) (hl : l.flags = pinnedFlags ++ [noTraceFlag])    (σ : St) (h : wp_LR_requireParcel_10 Γ  post thr  σ) : G p l e rm_LR_requireParcel s m args below meth c 1 D lo (pV AC Γ post) (tX AC Γ thr) (wσ AC Γ (σ)) 1 6 10 [] [] := by
  unfold wp_LR_requireParcel_10 at h
  exact g_throw (names := upX) hX hl fit_IllegalArgumentException fit_up all_IllegalArgumentException t_131 t_7 (str_in (own := "LandRegister") (k := 159) (tx := "a parcel is 0 .. 79") (by decide +kernel)) d_LR_requireParcel_10 d_LR_requireParcel_13 d_LR_requireParcel_14 d_LR_requireParcel_16 d_LR_requireParcel_19 (Nat.le_of_ble_eq_true rfl) (Nat.le_of_ble_eq_true rfl) ⟨_, rfl, h⟩
set_option maxRecDepth 100000 in
set_option maxHeartbeats 4000000 in
theorem c_LR_requireParcel {l : Launch} {D : va_G} {AC : Nat → ClassId} {lo : Nat} {Γ : Ev} {x0 : Int32} {σ : St} {post : St → Prop} {thr : String → St → Prop} (hl : l.flags = pinnedFlags ++ [noTraceFlag]) (h : wp_LR_requireParcel Γ x0 σ post thr) : Ct l y_LR_requireParcel hd_LR_requireParcel rm_LR_requireParcel D AC lo [.int (x0)] (wσ AC Γ σ) (pV AC Γ post) (tX AC Γ thr) := by
  refine Ct.of (by decide) (Nat.le_of_ble_eq_true rfl) ?_
  intro p e s m args below meth c hadm hX
  unfold wp_LR_requireParcel at h
  show G p l e rm_LR_requireParcel s m args below meth c 1 D lo (pV AC Γ post) (tX AC Γ thr) (wσ AC Γ (σ)) 1 6 0 [(0, .int (x0))] []
  refine g_iload_n hX d_LR_requireParcel_0 rfl 0 rfl ?_
  refine g_if_lt (tgt := 10) hX d_LR_requireParcel_1 (by decide) (fun q1 => ?_) (fun q1 => ?_)
  · have h := h.1 q1
    refine g_sub [] rfl ?_
    exact b_LR_requireParcel_10 hX hl   _ h
  · have h := h.2 q1
    refine g_iload_n hX d_LR_requireParcel_4 rfl 0 rfl ?_
    refine g_bipush (v := 80) hX d_LR_requireParcel_5 (by decide) ?_
    refine g_icmp_lt (tgt := 20) hX d_LR_requireParcel_7 (by decide) (fun q2 => ?_) (fun q2 => ?_)
    · have h := h.1 q2
      exact g_vret hX rfl d_LR_requireParcel_20 ⟨_, rfl, rfl, h⟩
    · have h := h.2 q2
      refine g_sub [] rfl ?_
      exact b_LR_requireParcel_10 hX hl   _ h

def wp_LR_requireUnits_11 (Γ : Ev)  (post : St → Prop) (thr : String → St → Prop)  (σ : St) : Prop := thr "java/lang/IllegalArgumentException" (σ)
def wp_LR_requireUnits (Γ : Ev) (x0 : Int32) (σ : St) (post : St → Prop) (thr : String → St → Prop) : Prop := ((x0 < (1 : Int32) → wp_LR_requireUnits_11 Γ  post thr  (σ)) ∧ (¬ x0 < (1 : Int32) → ((x0 ≤ (1000000000 : Int32) → post (σ)) ∧ (¬ x0 ≤ (1000000000 : Int32) → wp_LR_requireUnits_11 Γ  post thr  (σ)))))
abbrev rm_LR_requireUnits : Room := { frames := 6, cells := 1, slots := 6, locals := 100 }
set_option maxRecDepth 100000 in
set_option maxHeartbeats 4000000 in
theorem b_LR_requireUnits_11 {p : Program} {l : Launch} {e : Env} {s : State} {m : MethodId} {args : Array Value} {below : List Frame} {meth : Method} {c : Code} {D : va_G} {AC : Nat → ClassId} {lo : Nat} {Γ : Ev} {post : St → Prop} {thr : String → St → Prop} (hX : Cx p s m args meth c y_LR_requireUnits b_LR_requireUnits 1 none [] D AC lo) (hl : l.flags = pinnedFlags ++ [noTraceFlag])    (σ : St) (h : wp_LR_requireUnits_11 Γ  post thr  σ) : G p l e rm_LR_requireUnits s m args below meth c 1 D lo (pV AC Γ post) (tX AC Γ thr) (wσ AC Γ (σ)) 1 6 11 [] [] := by
  unfold wp_LR_requireUnits_11 at h
  exact g_throw (names := upX) hX hl fit_IllegalArgumentException fit_up all_IllegalArgumentException t_131 t_7 (str_in (own := "LandRegister") (k := 162) (tx := "an area or amount is 1 .. 1000000000") (by decide +kernel)) d_LR_requireUnits_11 d_LR_requireUnits_14 d_LR_requireUnits_15 d_LR_requireUnits_17 d_LR_requireUnits_20 (Nat.le_of_ble_eq_true rfl) (Nat.le_of_ble_eq_true rfl) ⟨_, rfl, h⟩
set_option maxRecDepth 100000 in
set_option maxHeartbeats 4000000 in
theorem c_LR_requireUnits {l : Launch} {D : va_G} {AC : Nat → ClassId} {lo : Nat} {Γ : Ev} {x0 : Int32} {σ : St} {post : St → Prop} {thr : String → St → Prop} (hl : l.flags = pinnedFlags ++ [noTraceFlag]) (h : wp_LR_requireUnits Γ x0 σ post thr) : Ct l y_LR_requireUnits hd_LR_requireUnits rm_LR_requireUnits D AC lo [.int (x0)] (wσ AC Γ σ) (pV AC Γ post) (tX AC Γ thr) := by
  refine Ct.of (by decide) (Nat.le_of_ble_eq_true rfl) ?_
  intro p e s m args below meth c hadm hX
  unfold wp_LR_requireUnits at h
  show G p l e rm_LR_requireUnits s m args below meth c 1 D lo (pV AC Γ post) (tX AC Γ thr) (wσ AC Γ (σ)) 1 6 0 [(0, .int (x0))] []
  refine g_iload_n hX d_LR_requireUnits_0 rfl 0 rfl ?_
  refine g_iconst (v := 1) hX d_LR_requireUnits_1 (by decide) ?_
  refine g_icmp_lt (tgt := 11) hX d_LR_requireUnits_2 (by decide) (fun q1 => ?_) (fun q1 => ?_)
  · have h := h.1 q1
    refine g_sub [] rfl ?_
    exact b_LR_requireUnits_11 hX hl   _ h
  · have h := h.2 q1
    refine g_iload_n hX d_LR_requireUnits_5 rfl 0 rfl ?_
    refine g_ldc (v := 1000000000) hX t_206 d_LR_requireUnits_6 ?_
    refine g_icmp_le (tgt := 21) hX d_LR_requireUnits_8 (by decide) (fun q2 => ?_) (fun q2 => ?_)
    · have h := h.1 q2
      exact g_vret hX rfl d_LR_requireUnits_21 ⟨_, rfl, rfl, h⟩
    · have h := h.2 q2
      refine g_sub [] rfl ?_
      exact b_LR_requireUnits_11 hX hl   _ h

def wp_LR_requireRank_10 (Γ : Ev)  (post : St → Prop) (thr : String → St → Prop)  (σ : St) : Prop := thr "java/lang/IllegalArgumentException" (σ)
def wp_LR_requireRank (Γ : Ev) (x0 : Int32) (σ : St) (post : St → Prop) (thr : String → St → Prop) : Prop := ((x0 < (1 : Int32) → wp_LR_requireRank_10 Γ  post thr  (σ)) ∧ (¬ x0 < (1 : Int32) → ((x0 ≤ (4 : Int32) → post (σ)) ∧ (¬ x0 ≤ (4 : Int32) → wp_LR_requireRank_10 Γ  post thr  (σ)))))
abbrev rm_LR_requireRank : Room := { frames := 6, cells := 1, slots := 6, locals := 100 }
set_option maxRecDepth 100000 in
set_option maxHeartbeats 4000000 in
theorem b_LR_requireRank_10 {p : Program} {l : Launch} {e : Env} {s : State} {m : MethodId} {args : Array Value} {below : List Frame} {meth : Method} {c : Code} {D : va_G} {AC : Nat → ClassId} {lo : Nat} {Γ : Ev} {post : St → Prop} {thr : String → St → Prop} (hX : Cx p s m args meth c y_LR_requireRank b_LR_requireRank 1 none [] D AC lo) (hl : l.flags = pinnedFlags ++ [noTraceFlag])    (σ : St) (h : wp_LR_requireRank_10 Γ  post thr  σ) : G p l e rm_LR_requireRank s m args below meth c 1 D lo (pV AC Γ post) (tX AC Γ thr) (wσ AC Γ (σ)) 1 6 10 [] [] := by
  unfold wp_LR_requireRank_10 at h
  exact g_throw (names := upX) hX hl fit_IllegalArgumentException fit_up all_IllegalArgumentException t_131 t_7 (str_in (own := "LandRegister") (k := 164) (tx := "a rank is 1 .. 4") (by decide +kernel)) d_LR_requireRank_10 d_LR_requireRank_13 d_LR_requireRank_14 d_LR_requireRank_16 d_LR_requireRank_19 (Nat.le_of_ble_eq_true rfl) (Nat.le_of_ble_eq_true rfl) ⟨_, rfl, h⟩
set_option maxRecDepth 100000 in
set_option maxHeartbeats 4000000 in
theorem c_LR_requireRank {l : Launch} {D : va_G} {AC : Nat → ClassId} {lo : Nat} {Γ : Ev} {x0 : Int32} {σ : St} {post : St → Prop} {thr : String → St → Prop} (hl : l.flags = pinnedFlags ++ [noTraceFlag]) (h : wp_LR_requireRank Γ x0 σ post thr) : Ct l y_LR_requireRank hd_LR_requireRank rm_LR_requireRank D AC lo [.int (x0)] (wσ AC Γ σ) (pV AC Γ post) (tX AC Γ thr) := by
  refine Ct.of (by decide) (Nat.le_of_ble_eq_true rfl) ?_
  intro p e s m args below meth c hadm hX
  unfold wp_LR_requireRank at h
  show G p l e rm_LR_requireRank s m args below meth c 1 D lo (pV AC Γ post) (tX AC Γ thr) (wσ AC Γ (σ)) 1 6 0 [(0, .int (x0))] []
  refine g_iload_n hX d_LR_requireRank_0 rfl 0 rfl ?_
  refine g_iconst (v := 1) hX d_LR_requireRank_1 (by decide) ?_
  refine g_icmp_lt (tgt := 10) hX d_LR_requireRank_2 (by decide) (fun q1 => ?_) (fun q1 => ?_)
  · have h := h.1 q1
    refine g_sub [] rfl ?_
    exact b_LR_requireRank_10 hX hl   _ h
  · have h := h.2 q1
    refine g_iload_n hX d_LR_requireRank_5 rfl 0 rfl ?_
    refine g_iconst (v := 4) hX d_LR_requireRank_6 (by decide) ?_
    refine g_icmp_le (tgt := 20) hX d_LR_requireRank_7 (by decide) (fun q2 => ?_) (fun q2 => ?_)
    · have h := h.1 q2
      exact g_vret hX rfl d_LR_requireRank_20 ⟨_, rfl, rfl, h⟩
    · have h := h.2 q2
      refine g_sub [] rfl ?_
      exact b_LR_requireRank_10 hX hl   _ h

def wp_LR_requireDifferent (Γ : Ev) (x0 : Int32) (x1 : Int32) (σ : St) (post : St → Prop) (thr : String → St → Prop) : Prop := ((¬ x0 = x1 → post (σ)) ∧ (x0 = x1 → thr "java/lang/IllegalArgumentException" (σ)))
abbrev rm_LR_requireDifferent : Room := { frames := 6, cells := 1, slots := 6, locals := 100 }
set_option maxRecDepth 100000 in
set_option maxHeartbeats 4000000 in
theorem c_LR_requireDifferent {l : Launch} {D : va_G} {AC : Nat → ClassId} {lo : Nat} {Γ : Ev} {x0 : Int32} {x1 : Int32} {σ : St} {post : St → Prop} {thr : String → St → Prop} (hl : l.flags = pinnedFlags ++ [noTraceFlag]) (h : wp_LR_requireDifferent Γ x0 x1 σ post thr) : Ct l y_LR_requireDifferent hd_LR_requireDifferent rm_LR_requireDifferent D AC lo [.int (x0), .int (x1)] (wσ AC Γ σ) (pV AC Γ post) (tX AC Γ thr) := by
  refine Ct.of (by decide) (Nat.le_of_ble_eq_true rfl) ?_
  intro p e s m args below meth c hadm hX
  unfold wp_LR_requireDifferent at h
  show G p l e rm_LR_requireDifferent s m args below meth c 2 D lo (pV AC Γ post) (tX AC Γ thr) (wσ AC Γ (σ)) 1 6 0 [(0, .int (x0)), (1, .int (x1))] []
  refine g_iload_n hX d_LR_requireDifferent_0 rfl 0 rfl ?_
  refine g_iload_n hX d_LR_requireDifferent_1 rfl 1 rfl ?_
  refine g_icmp_ne (tgt := 15) hX d_LR_requireDifferent_2 (by decide) (fun q1 => ?_) (fun q1 => ?_)
  · have h := h.1 q1
    exact g_vret hX rfl d_LR_requireDifferent_15 ⟨_, rfl, rfl, h⟩
  · have h := h.2 q1
    exact g_throw (names := upX) hX hl fit_IllegalArgumentException fit_up all_IllegalArgumentException t_131 t_7 (str_in (own := "LandRegister") (k := 166) (tx := "the two are the same") (by decide +kernel)) d_LR_requireDifferent_5 d_LR_requireDifferent_8 d_LR_requireDifferent_9 d_LR_requireDifferent_11 d_LR_requireDifferent_14 (Nat.le_of_ble_eq_true rfl) (Nat.le_of_ble_eq_true rfl) ⟨_, rfl, h⟩

def wp_LR_requireFraction_19 (Γ : Ev)  (post : St → Prop) (thr : String → St → Prop)  (σ : St) : Prop := thr "java/lang/IllegalArgumentException" (σ)
def wp_LR_requireFraction_47 (Γ : Ev)  (post : St → Prop) (thr : String → St → Prop)  (σ : St) : Prop := thr "java/lang/IllegalArgumentException" (σ)
def wp_LR_requireFraction (Γ : Ev) (x0 : Int64) (σ : St) (post : St → Prop) (thr : String → St → Prop) : Prop := wp_LR_denominator Γ (x0) (σ) (fun v1 σ2 => (((lg_cmp v1 (1 : Int64)) < 0 → wp_LR_requireFraction_19 Γ  post thr  (σ2)) ∧ (¬ (lg_cmp v1 (1 : Int64)) < 0 → (((lg_cmp v1 (1000000 : Int64)) ≤ 0 → wp_LR_numerator Γ (x0) (σ2) (fun v5 σ6 => (((lg_cmp v5 (1 : Int64)) < 0 → wp_LR_requireFraction_47 Γ  post thr  (σ6)) ∧ (¬ (lg_cmp v5 (1 : Int64)) < 0 → wp_LR_numerator Γ (x0) (σ6) (fun v8 σ9 => (((lg_cmp v8 v1) ≤ 0 → post (σ9)) ∧ (¬ (lg_cmp v8 v1) ≤ 0 → wp_LR_requireFraction_47 Γ  post thr  (σ9)))) thr))) thr) ∧ (¬ (lg_cmp v1 (1000000 : Int64)) ≤ 0 → wp_LR_requireFraction_19 Γ  post thr  (σ2)))))) thr
abbrev rm_LR_requireFraction : Room := { frames := 6, cells := 1, slots := 6, locals := 100 }
set_option maxRecDepth 100000 in
set_option maxHeartbeats 4000000 in
theorem b_LR_requireFraction_19 {p : Program} {l : Launch} {e : Env} {s : State} {m : MethodId} {args : Array Value} {below : List Frame} {meth : Method} {c : Code} {D : va_G} {AC : Nat → ClassId} {lo : Nat} {Γ : Ev} {post : St → Prop} {thr : String → St → Prop} (hX : Cx p s m args meth c y_LR_requireFraction b_LR_requireFraction 4 none [] D AC lo) (hl : l.flags = pinnedFlags ++ [noTraceFlag])    (σ : St) (h : wp_LR_requireFraction_19 Γ  post thr  σ) : G p l e rm_LR_requireFraction s m args below meth c 4 D lo (pV AC Γ post) (tX AC Γ thr) (wσ AC Γ (σ)) 1 6 19 [] [] := by
  unfold wp_LR_requireFraction_19 at h
  exact g_throw (names := upX) hX hl fit_IllegalArgumentException fit_up all_IllegalArgumentException t_131 t_7 (str_in (own := "LandRegister") (k := 174) (tx := "a denominator is 1 .. 1000000") (by decide +kernel)) d_LR_requireFraction_19 d_LR_requireFraction_22 d_LR_requireFraction_23 d_LR_requireFraction_25 d_LR_requireFraction_28 (Nat.le_of_ble_eq_true rfl) (Nat.le_of_ble_eq_true rfl) ⟨_, rfl, h⟩
set_option maxRecDepth 100000 in
set_option maxHeartbeats 4000000 in
theorem b_LR_requireFraction_47 {p : Program} {l : Launch} {e : Env} {s : State} {m : MethodId} {args : Array Value} {below : List Frame} {meth : Method} {c : Code} {D : va_G} {AC : Nat → ClassId} {lo : Nat} {Γ : Ev} {post : St → Prop} {thr : String → St → Prop} (hX : Cx p s m args meth c y_LR_requireFraction b_LR_requireFraction 4 none [] D AC lo) (hl : l.flags = pinnedFlags ++ [noTraceFlag])    (σ : St) (h : wp_LR_requireFraction_47 Γ  post thr  σ) : G p l e rm_LR_requireFraction s m args below meth c 4 D lo (pV AC Γ post) (tX AC Γ thr) (wσ AC Γ (σ)) 1 6 47 [] [] := by
  unfold wp_LR_requireFraction_47 at h
  exact g_throw (names := upX) hX hl fit_IllegalArgumentException fit_up all_IllegalArgumentException t_131 t_7 (str_in (own := "LandRegister") (k := 179) (tx := "a numerator is 1 .. the denominator") (by decide +kernel)) d_LR_requireFraction_47 d_LR_requireFraction_50 d_LR_requireFraction_51 d_LR_requireFraction_53 d_LR_requireFraction_56 (Nat.le_of_ble_eq_true rfl) (Nat.le_of_ble_eq_true rfl) ⟨_, rfl, h⟩
set_option maxRecDepth 100000 in
set_option maxHeartbeats 4000000 in
theorem c_LR_requireFraction {l : Launch} {D : va_G} {AC : Nat → ClassId} {lo : Nat} {Γ : Ev} {x0 : Int64} {σ : St} {post : St → Prop} {thr : String → St → Prop} (hl : l.flags = pinnedFlags ++ [noTraceFlag]) (h : wp_LR_requireFraction Γ x0 σ post thr) : Ct l y_LR_requireFraction hd_LR_requireFraction rm_LR_requireFraction D AC lo [.long (x0)] (wσ AC Γ σ) (pV AC Γ post) (tX AC Γ thr) := by
  refine Ct.of (by decide) (Nat.le_of_ble_eq_true rfl) ?_
  intro p e s m args below meth c hadm hX
  unfold wp_LR_requireFraction at h
  show G p l e rm_LR_requireFraction s m args below meth c 4 D lo (pV AC Γ post) (tX AC Γ thr) (wσ AC Γ (σ)) 1 6 0 [(0, .long (x0))] []
  refine g_lload_n hX d_LR_requireFraction_0 rfl 0 rfl ?_
  refine g_callS (k := 1) (n := 6) hX (c_LR_denominator h) hdT_LR_denominator hdO_LR_denominator t_1 t_342 t_343 ⟨⟨by decide, by decide⟩, np_LR_denominator⟩ ⟨Nat.le_of_ble_eq_true rfl, Nat.le_of_ble_eq_true rfl⟩ (Nat.le_of_ble_eq_true rfl) d_LR_requireFraction_1 rfl ?_ (fun _ _ z => z)
  rintro _ _ ⟨v1, σ2, rfl, rfl, h⟩
  refine g_lstore_n hX d_LR_requireFraction_4 rfl (by decide) rfl ?_
  refine g_lload_n hX d_LR_requireFraction_5 rfl 0 rfl ?_
  refine g_lconst (v := 1) hX d_LR_requireFraction_6 (by decide) ?_
  refine g_lcmp hX d_LR_requireFraction_7 ?_
  refine g_if_lt (tgt := 19) hX d_LR_requireFraction_8 (by decide) (fun q3 => ?_) (fun q3 => ?_)
  · have h := h.1 q3
    refine g_sub [] rfl ?_
    exact b_LR_requireFraction_19 hX hl   _ h
  · have h := h.2 q3
    refine g_lload_n hX d_LR_requireFraction_11 rfl 0 rfl ?_
    refine g_ldc2 (v := 1000000) hX t_358 d_LR_requireFraction_12 ?_
    refine g_lcmp hX d_LR_requireFraction_15 ?_
    refine g_if_le (tgt := 29) hX d_LR_requireFraction_16 (by decide) (fun q4 => ?_) (fun q4 => ?_)
    · have h := h.1 q4
      refine g_lload_n hX d_LR_requireFraction_29 rfl 1 rfl ?_
      refine g_callS (k := 1) (n := 6) hX (c_LR_numerator h) hdT_LR_numerator hdO_LR_numerator t_1 t_336 t_337 ⟨⟨by decide, by decide⟩, np_LR_numerator⟩ ⟨Nat.le_of_ble_eq_true rfl, Nat.le_of_ble_eq_true rfl⟩ (Nat.le_of_ble_eq_true rfl) d_LR_requireFraction_30 rfl ?_ (fun _ _ z => z)
      rintro _ _ ⟨v5, σ6, rfl, rfl, h⟩
      refine g_lconst (v := 1) hX d_LR_requireFraction_33 (by decide) ?_
      refine g_lcmp hX d_LR_requireFraction_34 ?_
      refine g_if_lt (tgt := 47) hX d_LR_requireFraction_35 (by decide) (fun q7 => ?_) (fun q7 => ?_)
      · have h := h.1 q7
        refine g_sub [] rfl ?_
        exact b_LR_requireFraction_47 hX hl   _ h
      · have h := h.2 q7
        refine g_lload_n hX d_LR_requireFraction_38 rfl 1 rfl ?_
        refine g_callS (k := 1) (n := 6) hX (c_LR_numerator h) hdT_LR_numerator hdO_LR_numerator t_1 t_336 t_337 ⟨⟨by decide, by decide⟩, np_LR_numerator⟩ ⟨Nat.le_of_ble_eq_true rfl, Nat.le_of_ble_eq_true rfl⟩ (Nat.le_of_ble_eq_true rfl) d_LR_requireFraction_39 rfl ?_ (fun _ _ z => z)
        rintro _ _ ⟨v8, σ9, rfl, rfl, h⟩
        refine g_lload_n hX d_LR_requireFraction_42 rfl 0 rfl ?_
        refine g_lcmp hX d_LR_requireFraction_43 ?_
        refine g_if_le (tgt := 57) hX d_LR_requireFraction_44 (by decide) (fun q10 => ?_) (fun q10 => ?_)
        · have h := h.1 q10
          exact g_vret hX rfl d_LR_requireFraction_57 ⟨_, rfl, rfl, h⟩
        · have h := h.2 q10
          refine g_sub [] rfl ?_
          exact b_LR_requireFraction_47 hX hl   _ h
    · have h := h.2 q4
      refine g_sub [] rfl ?_
      exact b_LR_requireFraction_19 hX hl   _ h

def wp_LR_requireFreeNumber (Γ : Ev)  (σ : St) (post : St → Prop) (thr : String → St → Prop) : Prop := (((St.I (σ) 0 0) < (40 : Int32) → post (σ)) ∧ (¬ (St.I (σ) 0 0) < (40 : Int32) → thr "java/lang/IllegalStateException" (σ)))
abbrev rm_LR_requireFreeNumber : Room := { frames := 6, cells := 1, slots := 6, locals := 100 }
set_option maxRecDepth 100000 in
set_option maxHeartbeats 4000000 in
theorem c_LR_requireFreeNumber {l : Launch} {D : va_G} {AC : Nat → ClassId} {lo : Nat} {Γ : Ev}  {σ : St} {post : St → Prop} {thr : String → St → Prop} (hl : l.flags = pinnedFlags ++ [noTraceFlag]) (h : wp_LR_requireFreeNumber Γ  σ post thr) : Ct l y_LR_requireFreeNumber hd_LR_requireFreeNumber rm_LR_requireFreeNumber D AC lo [.ref (Γ.ad 0)] (wσ AC Γ σ) (pV AC Γ post) (tX AC Γ thr) := by
  refine Ct.of (by decide) (Nat.le_of_ble_eq_true rfl) ?_
  intro p e s m args below meth c hadm hX
  unfold wp_LR_requireFreeNumber at h
  show G p l e rm_LR_requireFreeNumber s m args below meth c 1 D lo (pV AC Γ post) (tX AC Γ thr) (wσ AC Γ (σ)) 1 6 0 [(0, .ref (Γ.ad 0))] []
  refine g_aload_n hX d_LR_requireFreeNumber_0 rfl 0 rfl ?_
  refine g_getf (i := 0) (kf := 3) hX (lt_c (by decide)) rfl (lay_LR (AC := AC) (Γ := Γ)) rfl in_LR (by decide) t_101 (Or.inl rfl) rfl d_LR_requireFreeNumber_1 ?_
  refine g_bipush (v := 40) hX d_LR_requireFreeNumber_4 (by decide) ?_
  refine g_icmp_lt (tgt := 19) hX d_LR_requireFreeNumber_6 (by decide) (fun q1 => ?_) (fun q1 => ?_)
  · have h := h.1 q1
    exact g_vret hX rfl d_LR_requireFreeNumber_19 ⟨_, rfl, rfl, h⟩
  · have h := h.2 q1
    exact g_throw (names := upX) hX hl fit_IllegalStateException fit_up all_IllegalStateException t_212 t_8 (str_in (own := "LandRegister") (k := 181) (tx := "40 deeds were filed") (by decide +kernel)) d_LR_requireFreeNumber_9 d_LR_requireFreeNumber_12 d_LR_requireFreeNumber_13 d_LR_requireFreeNumber_15 d_LR_requireFreeNumber_18 (Nat.le_of_ble_eq_true rfl) (Nat.le_of_ble_eq_true rfl) ⟨_, rfl, h⟩
