def wp_LR_numerator (Γ : Ev) (x0 : Int64) (σ : St) (post : Int64 → St → Prop) (thr : String → St → Prop) : Prop := post (x0 >>> (Int32.toInt64 (32 : Int32) &&& 63)) (σ)
abbrev rm_LR_numerator : Room := { frames := 0, cells := 0, slots := 0, locals := 0 }
set_option maxRecDepth 100000 in
set_option maxHeartbeats 4000000 in
theorem c_LR_numerator {l : Launch} {D : va_G} {AC : Nat → ClassId} {lo : Nat} {Γ : Ev} {x0 : Int64} {σ : St} {post : Int64 → St → Prop} {thr : String → St → Prop} (h : wp_LR_numerator Γ x0 σ post thr) : Ct l y_LR_numerator hd_LR_numerator rm_LR_numerator D AC lo [.long (x0)] (wσ AC Γ σ) (pL AC Γ post) (tX AC Γ thr) := by
  refine Ct.of (by decide) (Nat.le_of_ble_eq_true rfl) ?_
  intro p e s m args below meth c hadm hX
  unfold wp_LR_numerator at h
  show G p l e rm_LR_numerator s m args below meth c 2 D lo (pL AC Γ post) (tX AC Γ thr) (wσ AC Γ (σ)) 0 0 0 [(0, .long (x0))] []
  refine g_lload_n hX d_LR_numerator_0 rfl 0 rfl ?_
  refine g_bipush (v := 32) hX d_LR_numerator_1 (by decide) ?_
  refine g_lshr hX d_LR_numerator_3 ?_
  exact g_lret hX rfl d_LR_numerator_4 ⟨_, _, rfl, rfl, h⟩

def wp_LR_denominator (Γ : Ev) (x0 : Int64) (σ : St) (post : Int64 → St → Prop) (thr : String → St → Prop) : Prop := post (x0 &&& (4294967295 : Int64)) (σ)
abbrev rm_LR_denominator : Room := { frames := 0, cells := 0, slots := 0, locals := 0 }
set_option maxRecDepth 100000 in
set_option maxHeartbeats 4000000 in
theorem c_LR_denominator {l : Launch} {D : va_G} {AC : Nat → ClassId} {lo : Nat} {Γ : Ev} {x0 : Int64} {σ : St} {post : Int64 → St → Prop} {thr : String → St → Prop} (h : wp_LR_denominator Γ x0 σ post thr) : Ct l y_LR_denominator hd_LR_denominator rm_LR_denominator D AC lo [.long (x0)] (wσ AC Γ σ) (pL AC Γ post) (tX AC Γ thr) := by
  refine Ct.of (by decide) (Nat.le_of_ble_eq_true rfl) ?_
  intro p e s m args below meth c hadm hX
  unfold wp_LR_denominator at h
  show G p l e rm_LR_denominator s m args below meth c 2 D lo (pL AC Γ post) (tX AC Γ thr) (wσ AC Γ (σ)) 0 0 0 [(0, .long (x0))] []
  refine g_lload_n hX d_LR_denominator_0 rfl 0 rfl ?_
  refine g_ldc2 (v := 4294967295) hX t_345 d_LR_denominator_1 ?_
  refine g_land hX d_LR_denominator_4 ?_
  exact g_lret hX rfl d_LR_denominator_5 ⟨_, _, rfl, rfl, h⟩

def wp_LR_parts (Γ : Ev) (x0 : Int64) (σ : St) (post : Int64 → St → Prop) (thr : String → St → Prop) : Prop := wp_LR_denominator Γ (x0) (σ) (fun v1 σ2 => post (if v1 < (1 : Int64) then (1 : Int64) else v1) (σ2)) thr
abbrev rm_LR_parts : Room := { frames := 1, cells := 0, slots := 0, locals := 40 }
set_option maxRecDepth 100000 in
set_option maxHeartbeats 4000000 in
theorem c_LR_parts {l : Launch} {D : va_G} {AC : Nat → ClassId} {lo : Nat} {Γ : Ev} {x0 : Int64} {σ : St} {post : Int64 → St → Prop} {thr : String → St → Prop} (h : wp_LR_parts Γ x0 σ post thr) : Ct l y_LR_parts hd_LR_parts rm_LR_parts D AC lo [.long (x0)] (wσ AC Γ σ) (pL AC Γ post) (tX AC Γ thr) := by
  refine Ct.of (by decide) (Nat.le_of_ble_eq_true rfl) ?_
  intro p e s m args below meth c hadm hX
  unfold wp_LR_parts at h
  show G p l e rm_LR_parts s m args below meth c 2 D lo (pL AC Γ post) (tX AC Γ thr) (wσ AC Γ (σ)) 0 0 0 [(0, .long (x0))] []
  refine g_lconst (v := 1) hX d_LR_parts_0 (by decide) ?_
  refine g_lload_n hX d_LR_parts_1 rfl 0 rfl ?_
  refine g_callS (k := 0) (n := 0) hX (c_LR_denominator h) hdT_LR_denominator hdO_LR_denominator t_1 t_342 t_343 ⟨⟨by decide, by decide⟩, np_LR_denominator⟩ ⟨Nat.le_of_ble_eq_true rfl, Nat.le_of_ble_eq_true rfl⟩ (Nat.le_of_ble_eq_true rfl) d_LR_parts_2 rfl ?_ (fun _ _ z => z)
  rintro _ _ ⟨v1, σ2, rfl, rfl, h⟩
  refine g_maxL hX ⟨t_346, t_347, t_11, t_maxL⟩ d_LR_parts_5 (Nat.le_of_ble_eq_true rfl) (Nat.le_of_ble_eq_true rfl) ?_
  exact g_lret hX rfl d_LR_parts_8 ⟨_, _, rfl, rfl, h⟩

def wp_LR_commonDivisor_44 (Γ : Ev)  (post : Int64 → St → Prop) (thr : String → St → Prop) (x4 : Int64) (σ : St) : Prop := (((lg_cmp x4 (0 : Int64)) ≤ 0 → post (1 : Int64) (σ)) ∧ (¬ (lg_cmp x4 (0 : Int64)) ≤ 0 → post x4 (σ)))
def wp_LR_commonDivisor_9 (Γ : Ev)  (post : Int64 → St → Prop) (thr : String → St → Prop) : Nat → Int64 → Int64 → Int32 → St → Prop
  | 0 => fun _ _ _ _ => False
  | fuel + 1 => fun x4 x6 x8 σ => (((100 : Int32) ≤ x8 → wp_LR_commonDivisor_44 Γ  post thr (x4) (σ)) ∧ (¬ (100 : Int32) ≤ x8 → (((lg_cmp x6 (0 : Int64)) = 0 → wp_LR_commonDivisor_44 Γ  post thr (x4) (σ)) ∧ (¬ (lg_cmp x6 (0 : Int64)) = 0 → (¬ x6 = 0 ∧ wp_LR_commonDivisor_9 Γ  post thr fuel (x6) ((x4 - x4 / x6 * x6)) ((x8 + 1)) (σ))))))
def wp_LR_commonDivisor (Γ : Ev) (x0 : Int64) (x2 : Int64) (σ : St) (post : Int64 → St → Prop) (thr : String → St → Prop) : Prop := (∃ f5, wp_LR_commonDivisor_9 Γ  post thr f5 (x0) (x2) ((0 : Int32)) (σ))
abbrev rm_LR_commonDivisor : Room := { frames := 0, cells := 0, slots := 0, locals := 0 }
set_option maxRecDepth 100000 in
set_option maxHeartbeats 4000000 in
theorem b_LR_commonDivisor_44 {p : Program} {l : Launch} {e : Env} {s : State} {m : MethodId} {args : Array Value} {below : List Frame} {meth : Method} {c : Code} {D : va_G} {AC : Nat → ClassId} {lo : Nat} {Γ : Ev} {post : Int64 → St → Prop} {thr : String → St → Prop} (hX : Cx p s m args meth c y_LR_commonDivisor b_LR_commonDivisor 11 (some .long) [] D AC lo)   (x4 : Int64) (σ : St) (h : wp_LR_commonDivisor_44 Γ  post thr x4 σ) : G p l e rm_LR_commonDivisor s m args below meth c 11 D lo (pL AC Γ post) (tX AC Γ thr) (wσ AC Γ (σ)) 0 0 44 [(4, .long (x4))] [] := by
  unfold wp_LR_commonDivisor_44 at h
  refine g_lload hX d_LR_commonDivisor_44 0 rfl ?_
  refine g_lconst (v := 0) hX d_LR_commonDivisor_46 (by decide) ?_
  refine g_lcmp hX d_LR_commonDivisor_47 ?_
  refine g_if_le (tgt := 56) hX d_LR_commonDivisor_48 (by decide) (fun q2 => ?_) (fun q2 => ?_)
  · have h := h.1 q2
    refine g_lconst (v := 1) hX d_LR_commonDivisor_56 (by decide) ?_
    exact g_lret hX rfl d_LR_commonDivisor_57 ⟨_, _, rfl, rfl, h⟩
  · have h := h.2 q2
    refine g_lload hX d_LR_commonDivisor_51 0 rfl ?_
    refine g_goto (tgt := 57) hX d_LR_commonDivisor_53 (by decide) ?_
    exact g_lret hX rfl d_LR_commonDivisor_57 ⟨_, _, rfl, rfl, h⟩
set_option maxRecDepth 100000 in
set_option maxHeartbeats 4000000 in
theorem b_LR_commonDivisor_9 {p : Program} {l : Launch} {e : Env} {s : State} {m : MethodId} {args : Array Value} {below : List Frame} {meth : Method} {c : Code} {D : va_G} {AC : Nat → ClassId} {lo : Nat} {Γ : Ev} {post : Int64 → St → Prop} {thr : String → St → Prop} (hX : Cx p s m args meth c y_LR_commonDivisor b_LR_commonDivisor 11 (some .long) [] D AC lo)   : ∀ (fuel : Nat) (x4 : Int64) (x6 : Int64) (x8 : Int32) (σ : St), wp_LR_commonDivisor_9 Γ  post thr fuel x4 x6 x8 σ → G p l e rm_LR_commonDivisor s m args below meth c 11 D lo (pL AC Γ post) (tX AC Γ thr) (wσ AC Γ (σ)) 0 0 9 [(4, .long (x4)), (6, .long (x6)), (8, .int (x8))] [] := by
  intro fuel
  induction fuel with
  | zero => intro x4 x6 x8 σ h; exact False.elim h
  | succ fuel ih =>
    intro x4 x6 x8 σ h
    simp only [wp_LR_commonDivisor_9] at h
    refine g_iload hX d_LR_commonDivisor_9 2 rfl ?_
    refine g_bipush (v := 100) hX d_LR_commonDivisor_11 (by decide) ?_
    refine g_icmp_ge (tgt := 44) hX d_LR_commonDivisor_13 (by decide) (fun q1 => ?_) (fun q1 => ?_)
    · have h := h.1 q1
      refine g_sub [0] rfl ?_
      exact b_LR_commonDivisor_44 hX  _ _ h
    · have h := h.2 q1
      refine g_lload hX d_LR_commonDivisor_16 1 rfl ?_
      refine g_lconst (v := 0) hX d_LR_commonDivisor_18 (by decide) ?_
      refine g_lcmp hX d_LR_commonDivisor_19 ?_
      refine g_if_eq (tgt := 44) hX d_LR_commonDivisor_20 (by decide) (fun q3 => ?_) (fun q3 => ?_)
      · have h := h.1 q3
        refine g_sub [0] rfl ?_
        exact b_LR_commonDivisor_44 hX  _ _ h
      · have h := h.2 q3
        refine g_lload hX d_LR_commonDivisor_23 0 rfl ?_
        refine g_lload hX d_LR_commonDivisor_25 1 rfl ?_
        obtain ⟨q4, h⟩ := h
        refine g_lrem hX d_LR_commonDivisor_27 q4 ?_
        refine g_lstore hX d_LR_commonDivisor_28 (by decide) rfl ?_
        refine g_lload hX d_LR_commonDivisor_30 2 rfl ?_
        refine g_lstore hX d_LR_commonDivisor_32 (by decide) rfl ?_
        refine g_lload hX d_LR_commonDivisor_34 1 rfl ?_
        refine g_lstore hX d_LR_commonDivisor_36 (by decide) rfl ?_
        refine g_iinc (v := x8 + 1) hX d_LR_commonDivisor_38 3 rfl (congrArg (x8 + ·) (by decide)) (by decide) rfl ?_
        refine g_goto (tgt := 9) hX d_LR_commonDivisor_41 (by decide) ?_
        refine g_sub [2, 1, 0] rfl ?_
        exact ih (x6) ((x4 - x4 / x6 * x6)) ((x8 + 1)) (σ) h
set_option maxRecDepth 100000 in
set_option maxHeartbeats 4000000 in
theorem c_LR_commonDivisor {l : Launch} {D : va_G} {AC : Nat → ClassId} {lo : Nat} {Γ : Ev} {x0 : Int64} {x2 : Int64} {σ : St} {post : Int64 → St → Prop} {thr : String → St → Prop} (h : wp_LR_commonDivisor Γ x0 x2 σ post thr) : Ct l y_LR_commonDivisor hd_LR_commonDivisor rm_LR_commonDivisor D AC lo [.long (x0), .long (x2)] (wσ AC Γ σ) (pL AC Γ post) (tX AC Γ thr) := by
  refine Ct.of (by decide) (Nat.le_of_ble_eq_true rfl) ?_
  intro p e s m args below meth c hadm hX
  unfold wp_LR_commonDivisor at h
  show G p l e rm_LR_commonDivisor s m args below meth c 11 D lo (pL AC Γ post) (tX AC Γ thr) (wσ AC Γ (σ)) 0 0 0 [(0, .long (x0)), (2, .long (x2))] []
  refine g_lload_n hX d_LR_commonDivisor_0 rfl 0 rfl ?_
  refine g_lstore hX d_LR_commonDivisor_1 (by decide) rfl ?_
  refine g_lload_n hX d_LR_commonDivisor_3 rfl 2 rfl ?_
  refine g_lstore hX d_LR_commonDivisor_4 (by decide) rfl ?_
  refine g_iconst (v := 0) hX d_LR_commonDivisor_6 (by decide) ?_
  refine g_istore hX d_LR_commonDivisor_7 (by decide) rfl ?_
  refine g_sub [2, 1, 0] rfl ?_
  obtain ⟨f5, h⟩ := h
  exact b_LR_commonDivisor_9 hX  f5 _ _ _ _ h

def wp_LR_lowest (Γ : Ev) (x0 : Int64) (x2 : Int64) (σ : St) (post : Int64 → St → Prop) (thr : String → St → Prop) : Prop := ((¬ (lg_cmp x0 (0 : Int64)) = 0 → wp_LR_commonDivisor Γ (x0) (x2) (σ) (fun v2 σ3 => (¬ v2 = 0 ∧ (((lg_cmp (x2 / v2) (1000000 : Int64)) ≤ 0 → (¬ v2 = 0 ∧ (¬ v2 = 0 ∧ post (((x0 / v2) <<< (Int32.toInt64 (32 : Int32) &&& 63)) ||| (x2 / v2)) (σ3)))) ∧ (¬ (lg_cmp (x2 / v2) (1000000 : Int64)) ≤ 0 → post (-1 : Int64) (σ3))))) thr) ∧ ((lg_cmp x0 (0 : Int64)) = 0 → post (0 : Int64) (σ)))
abbrev rm_LR_lowest : Room := { frames := 1, cells := 0, slots := 0, locals := 30 }
set_option maxRecDepth 100000 in
set_option maxHeartbeats 4000000 in
theorem c_LR_lowest {l : Launch} {D : va_G} {AC : Nat → ClassId} {lo : Nat} {Γ : Ev} {x0 : Int64} {x2 : Int64} {σ : St} {post : Int64 → St → Prop} {thr : String → St → Prop} (h : wp_LR_lowest Γ x0 x2 σ post thr) : Ct l y_LR_lowest hd_LR_lowest rm_LR_lowest D AC lo [.long (x0), .long (x2)] (wσ AC Γ σ) (pL AC Γ post) (tX AC Γ thr) := by
  refine Ct.of (by decide) (Nat.le_of_ble_eq_true rfl) ?_
  intro p e s m args below meth c hadm hX
  unfold wp_LR_lowest at h
  show G p l e rm_LR_lowest s m args below meth c 6 D lo (pL AC Γ post) (tX AC Γ thr) (wσ AC Γ (σ)) 0 0 0 [(0, .long (x0)), (2, .long (x2))] []
  refine g_lload_n hX d_LR_lowest_0 rfl 0 rfl ?_
  refine g_lconst (v := 0) hX d_LR_lowest_1 (by decide) ?_
  refine g_lcmp hX d_LR_lowest_2 ?_
  refine g_if_ne (tgt := 8) hX d_LR_lowest_3 (by decide) (fun q1 => ?_) (fun q1 => ?_)
  · have h := h.1 q1
    refine g_lload_n hX d_LR_lowest_8 rfl 0 rfl ?_
    refine g_lload_n hX d_LR_lowest_9 rfl 1 rfl ?_
    refine g_callS (k := 0) (n := 0) hX (c_LR_commonDivisor h) hdT_LR_commonDivisor hdO_LR_commonDivisor t_1 t_355 t_356 ⟨⟨by decide, by decide⟩, np_LR_commonDivisor⟩ ⟨Nat.le_of_ble_eq_true rfl, Nat.le_of_ble_eq_true rfl⟩ (Nat.le_of_ble_eq_true rfl) d_LR_lowest_10 rfl ?_ (fun _ _ z => z)
    rintro _ _ ⟨v2, σ3, rfl, rfl, h⟩
    refine g_lstore hX d_LR_lowest_13 (by decide) rfl ?_
    refine g_lload_n hX d_LR_lowest_15 rfl 2 rfl ?_
    refine g_lload hX d_LR_lowest_16 0 rfl ?_
    obtain ⟨q4, h⟩ := h
    refine g_ldiv hX d_LR_lowest_18 q4 ?_
    refine g_ldc2 (v := 1000000) hX t_358 d_LR_lowest_19 ?_
    refine g_lcmp hX d_LR_lowest_22 ?_
    refine g_if_le (tgt := 30) hX d_LR_lowest_23 (by decide) (fun q5 => ?_) (fun q5 => ?_)
    · have h := h.1 q5
      refine g_lload_n hX d_LR_lowest_30 rfl 1 rfl ?_
      refine g_lload hX d_LR_lowest_31 0 rfl ?_
      obtain ⟨q6, h⟩ := h
      refine g_ldiv hX d_LR_lowest_33 q6 ?_
      refine g_bipush (v := 32) hX d_LR_lowest_34 (by decide) ?_
      refine g_lshl hX d_LR_lowest_36 ?_
      refine g_lload_n hX d_LR_lowest_37 rfl 2 rfl ?_
      refine g_lload hX d_LR_lowest_38 0 rfl ?_
      obtain ⟨q7, h⟩ := h
      refine g_ldiv hX d_LR_lowest_40 q7 ?_
      refine g_lor hX d_LR_lowest_41 ?_
      exact g_lret hX rfl d_LR_lowest_42 ⟨_, _, rfl, rfl, h⟩
    · have h := h.2 q5
      refine g_ldc2 (v := -1) hX t_359 d_LR_lowest_26 ?_
      exact g_lret hX rfl d_LR_lowest_29 ⟨_, _, rfl, rfl, h⟩
  · have h := h.2 q1
    refine g_lconst (v := 0) hX d_LR_lowest_6 (by decide) ?_
    exact g_lret hX rfl d_LR_lowest_7 ⟨_, _, rfl, rfl, h⟩

def wp_LR_isLess (Γ : Ev) (x0 : Int64) (x2 : Int64) (σ : St) (post : Int32 → St → Prop) (thr : String → St → Prop) : Prop := wp_LR_numerator Γ (x0) (σ) (fun v1 σ2 => wp_LR_parts Γ (x2) (σ2) (fun v3 σ4 => wp_LR_numerator Γ (x2) (σ4) (fun v5 σ6 => wp_LR_parts Γ (x0) (σ6) (fun v7 σ8 => ((0 ≤ (lg_cmp (v1 * v3) (v5 * v7)) → post (0 : Int32) (σ8)) ∧ (¬ 0 ≤ (lg_cmp (v1 * v3) (v5 * v7)) → post (1 : Int32) (σ8)))) thr) thr) thr) thr
abbrev rm_LR_isLess : Room := { frames := 2, cells := 0, slots := 0, locals := 61 }
set_option maxRecDepth 100000 in
set_option maxHeartbeats 4000000 in
theorem c_LR_isLess {l : Launch} {D : va_G} {AC : Nat → ClassId} {lo : Nat} {Γ : Ev} {x0 : Int64} {x2 : Int64} {σ : St} {post : Int32 → St → Prop} {thr : String → St → Prop} (h : wp_LR_isLess Γ x0 x2 σ post thr) : Ct l y_LR_isLess hd_LR_isLess rm_LR_isLess D AC lo [.long (x0), .long (x2)] (wσ AC Γ σ) (pI AC Γ post) (tX AC Γ thr) := by
  refine Ct.of (by decide) (Nat.le_of_ble_eq_true rfl) ?_
  intro p e s m args below meth c hadm hX
  unfold wp_LR_isLess at h
  show G p l e rm_LR_isLess s m args below meth c 4 D lo (pI AC Γ post) (tX AC Γ thr) (wσ AC Γ (σ)) 0 0 0 [(0, .long (x0)), (2, .long (x2))] []
  refine g_lload_n hX d_LR_isLess_0 rfl 0 rfl ?_
  refine g_callS (k := 0) (n := 0) hX (c_LR_numerator h) hdT_LR_numerator hdO_LR_numerator t_1 t_336 t_337 ⟨⟨by decide, by decide⟩, np_LR_numerator⟩ ⟨Nat.le_of_ble_eq_true rfl, Nat.le_of_ble_eq_true rfl⟩ (Nat.le_of_ble_eq_true rfl) d_LR_isLess_1 rfl ?_ (fun _ _ z => z)
  rintro _ _ ⟨v1, σ2, rfl, rfl, h⟩
  refine g_lload_n hX d_LR_isLess_4 rfl 1 rfl ?_
  refine g_callS (k := 0) (n := 0) hX (c_LR_parts h) hdT_LR_parts hdO_LR_parts t_1 t_339 t_340 ⟨⟨by decide, by decide⟩, np_LR_parts⟩ ⟨Nat.le_of_ble_eq_true rfl, Nat.le_of_ble_eq_true rfl⟩ (Nat.le_of_ble_eq_true rfl) d_LR_isLess_5 rfl ?_ (fun _ _ z => z)
  rintro _ _ ⟨v3, σ4, rfl, rfl, h⟩
  refine g_lmul hX d_LR_isLess_8 ?_
  refine g_lload_n hX d_LR_isLess_9 rfl 1 rfl ?_
  refine g_callS (k := 0) (n := 0) hX (c_LR_numerator h) hdT_LR_numerator hdO_LR_numerator t_1 t_336 t_337 ⟨⟨by decide, by decide⟩, np_LR_numerator⟩ ⟨Nat.le_of_ble_eq_true rfl, Nat.le_of_ble_eq_true rfl⟩ (Nat.le_of_ble_eq_true rfl) d_LR_isLess_10 rfl ?_ (fun _ _ z => z)
  rintro _ _ ⟨v5, σ6, rfl, rfl, h⟩
  refine g_lload_n hX d_LR_isLess_13 rfl 0 rfl ?_
  refine g_callS (k := 0) (n := 0) hX (c_LR_parts h) hdT_LR_parts hdO_LR_parts t_1 t_339 t_340 ⟨⟨by decide, by decide⟩, np_LR_parts⟩ ⟨Nat.le_of_ble_eq_true rfl, Nat.le_of_ble_eq_true rfl⟩ (Nat.le_of_ble_eq_true rfl) d_LR_isLess_14 rfl ?_ (fun _ _ z => z)
  rintro _ _ ⟨v7, σ8, rfl, rfl, h⟩
  refine g_lmul hX d_LR_isLess_17 ?_
  refine g_lcmp hX d_LR_isLess_18 ?_
  refine g_if_ge (tgt := 26) hX d_LR_isLess_19 (by decide) (fun q9 => ?_) (fun q9 => ?_)
  · have h := h.1 q9
    refine g_iconst (v := 0) hX d_LR_isLess_26 (by decide) ?_
    exact g_zret hX rfl d_LR_isLess_27 (by decide) ⟨_, _, rfl, rfl, h⟩
  · have h := h.2 q9
    refine g_iconst (v := 1) hX d_LR_isLess_22 (by decide) ?_
    refine g_goto (tgt := 27) hX d_LR_isLess_23 (by decide) ?_
    exact g_zret hX rfl d_LR_isLess_27 (by decide) ⟨_, _, rfl, rfl, h⟩

def wp_LR_plus (Γ : Ev) (x0 : Int64) (x2 : Int64) (σ : St) (post : Int64 → St → Prop) (thr : String → St → Prop) : Prop := wp_LR_numerator Γ (x0) (σ) (fun v1 σ2 => wp_LR_parts Γ (x2) (σ2) (fun v3 σ4 => wp_LR_numerator Γ (x2) (σ4) (fun v5 σ6 => wp_LR_parts Γ (x0) (σ6) (fun v7 σ8 => wp_LR_parts Γ (x0) (σ8) (fun v9 σ10 => wp_LR_parts Γ (x2) (σ10) (fun v11 σ12 => wp_LR_lowest Γ (((v1 * v3) + (v5 * v7))) ((v9 * v11)) (σ12) (fun v13 σ14 => post v13 (σ14)) thr) thr) thr) thr) thr) thr) thr
abbrev rm_LR_plus : Room := { frames := 2, cells := 0, slots := 0, locals := 61 }
set_option maxRecDepth 100000 in
set_option maxHeartbeats 4000000 in
theorem c_LR_plus {l : Launch} {D : va_G} {AC : Nat → ClassId} {lo : Nat} {Γ : Ev} {x0 : Int64} {x2 : Int64} {σ : St} {post : Int64 → St → Prop} {thr : String → St → Prop} (h : wp_LR_plus Γ x0 x2 σ post thr) : Ct l y_LR_plus hd_LR_plus rm_LR_plus D AC lo [.long (x0), .long (x2)] (wσ AC Γ σ) (pL AC Γ post) (tX AC Γ thr) := by
  refine Ct.of (by decide) (Nat.le_of_ble_eq_true rfl) ?_
  intro p e s m args below meth c hadm hX
  unfold wp_LR_plus at h
  show G p l e rm_LR_plus s m args below meth c 4 D lo (pL AC Γ post) (tX AC Γ thr) (wσ AC Γ (σ)) 0 0 0 [(0, .long (x0)), (2, .long (x2))] []
  refine g_lload_n hX d_LR_plus_0 rfl 0 rfl ?_
  refine g_callS (k := 0) (n := 0) hX (c_LR_numerator h) hdT_LR_numerator hdO_LR_numerator t_1 t_336 t_337 ⟨⟨by decide, by decide⟩, np_LR_numerator⟩ ⟨Nat.le_of_ble_eq_true rfl, Nat.le_of_ble_eq_true rfl⟩ (Nat.le_of_ble_eq_true rfl) d_LR_plus_1 rfl ?_ (fun _ _ z => z)
  rintro _ _ ⟨v1, σ2, rfl, rfl, h⟩
  refine g_lload_n hX d_LR_plus_4 rfl 1 rfl ?_
  refine g_callS (k := 0) (n := 0) hX (c_LR_parts h) hdT_LR_parts hdO_LR_parts t_1 t_339 t_340 ⟨⟨by decide, by decide⟩, np_LR_parts⟩ ⟨Nat.le_of_ble_eq_true rfl, Nat.le_of_ble_eq_true rfl⟩ (Nat.le_of_ble_eq_true rfl) d_LR_plus_5 rfl ?_ (fun _ _ z => z)
  rintro _ _ ⟨v3, σ4, rfl, rfl, h⟩
  refine g_lmul hX d_LR_plus_8 ?_
  refine g_lload_n hX d_LR_plus_9 rfl 1 rfl ?_
  refine g_callS (k := 0) (n := 0) hX (c_LR_numerator h) hdT_LR_numerator hdO_LR_numerator t_1 t_336 t_337 ⟨⟨by decide, by decide⟩, np_LR_numerator⟩ ⟨Nat.le_of_ble_eq_true rfl, Nat.le_of_ble_eq_true rfl⟩ (Nat.le_of_ble_eq_true rfl) d_LR_plus_10 rfl ?_ (fun _ _ z => z)
  rintro _ _ ⟨v5, σ6, rfl, rfl, h⟩
  refine g_lload_n hX d_LR_plus_13 rfl 0 rfl ?_
  refine g_callS (k := 0) (n := 0) hX (c_LR_parts h) hdT_LR_parts hdO_LR_parts t_1 t_339 t_340 ⟨⟨by decide, by decide⟩, np_LR_parts⟩ ⟨Nat.le_of_ble_eq_true rfl, Nat.le_of_ble_eq_true rfl⟩ (Nat.le_of_ble_eq_true rfl) d_LR_plus_14 rfl ?_ (fun _ _ z => z)
  rintro _ _ ⟨v7, σ8, rfl, rfl, h⟩
  refine g_lmul hX d_LR_plus_17 ?_
  refine g_ladd hX d_LR_plus_18 ?_
  refine g_lload_n hX d_LR_plus_19 rfl 0 rfl ?_
  refine g_callS (k := 0) (n := 0) hX (c_LR_parts h) hdT_LR_parts hdO_LR_parts t_1 t_339 t_340 ⟨⟨by decide, by decide⟩, np_LR_parts⟩ ⟨Nat.le_of_ble_eq_true rfl, Nat.le_of_ble_eq_true rfl⟩ (Nat.le_of_ble_eq_true rfl) d_LR_plus_20 rfl ?_ (fun _ _ z => z)
  rintro _ _ ⟨v9, σ10, rfl, rfl, h⟩
  refine g_lload_n hX d_LR_plus_23 rfl 1 rfl ?_
  refine g_callS (k := 0) (n := 0) hX (c_LR_parts h) hdT_LR_parts hdO_LR_parts t_1 t_339 t_340 ⟨⟨by decide, by decide⟩, np_LR_parts⟩ ⟨Nat.le_of_ble_eq_true rfl, Nat.le_of_ble_eq_true rfl⟩ (Nat.le_of_ble_eq_true rfl) d_LR_plus_24 rfl ?_ (fun _ _ z => z)
  rintro _ _ ⟨v11, σ12, rfl, rfl, h⟩
  refine g_lmul hX d_LR_plus_27 ?_
  refine g_callS (k := 0) (n := 0) hX (c_LR_lowest h) hdT_LR_lowest hdO_LR_lowest t_1 t_352 t_353 ⟨⟨by decide, by decide⟩, np_LR_lowest⟩ ⟨Nat.le_of_ble_eq_true rfl, Nat.le_of_ble_eq_true rfl⟩ (Nat.le_of_ble_eq_true rfl) d_LR_plus_28 rfl ?_ (fun _ _ z => z)
  rintro _ _ ⟨v13, σ14, rfl, rfl, h⟩
  exact g_lret hX rfl d_LR_plus_31 ⟨_, _, rfl, rfl, h⟩

def wp_LR_minus (Γ : Ev) (x0 : Int64) (x2 : Int64) (σ : St) (post : Int64 → St → Prop) (thr : String → St → Prop) : Prop := wp_LR_numerator Γ (x0) (σ) (fun v1 σ2 => wp_LR_parts Γ (x2) (σ2) (fun v3 σ4 => wp_LR_numerator Γ (x2) (σ4) (fun v5 σ6 => wp_LR_parts Γ (x0) (σ6) (fun v7 σ8 => wp_LR_parts Γ (x0) (σ8) (fun v9 σ10 => wp_LR_parts Γ (x2) (σ10) (fun v11 σ12 => wp_LR_lowest Γ (((v1 * v3) - (v5 * v7))) ((v9 * v11)) (σ12) (fun v13 σ14 => post v13 (σ14)) thr) thr) thr) thr) thr) thr) thr
abbrev rm_LR_minus : Room := { frames := 2, cells := 0, slots := 0, locals := 61 }
set_option maxRecDepth 100000 in
set_option maxHeartbeats 4000000 in
theorem c_LR_minus {l : Launch} {D : va_G} {AC : Nat → ClassId} {lo : Nat} {Γ : Ev} {x0 : Int64} {x2 : Int64} {σ : St} {post : Int64 → St → Prop} {thr : String → St → Prop} (h : wp_LR_minus Γ x0 x2 σ post thr) : Ct l y_LR_minus hd_LR_minus rm_LR_minus D AC lo [.long (x0), .long (x2)] (wσ AC Γ σ) (pL AC Γ post) (tX AC Γ thr) := by
  refine Ct.of (by decide) (Nat.le_of_ble_eq_true rfl) ?_
  intro p e s m args below meth c hadm hX
  unfold wp_LR_minus at h
  show G p l e rm_LR_minus s m args below meth c 4 D lo (pL AC Γ post) (tX AC Γ thr) (wσ AC Γ (σ)) 0 0 0 [(0, .long (x0)), (2, .long (x2))] []
  refine g_lload_n hX d_LR_minus_0 rfl 0 rfl ?_
  refine g_callS (k := 0) (n := 0) hX (c_LR_numerator h) hdT_LR_numerator hdO_LR_numerator t_1 t_336 t_337 ⟨⟨by decide, by decide⟩, np_LR_numerator⟩ ⟨Nat.le_of_ble_eq_true rfl, Nat.le_of_ble_eq_true rfl⟩ (Nat.le_of_ble_eq_true rfl) d_LR_minus_1 rfl ?_ (fun _ _ z => z)
  rintro _ _ ⟨v1, σ2, rfl, rfl, h⟩
  refine g_lload_n hX d_LR_minus_4 rfl 1 rfl ?_
  refine g_callS (k := 0) (n := 0) hX (c_LR_parts h) hdT_LR_parts hdO_LR_parts t_1 t_339 t_340 ⟨⟨by decide, by decide⟩, np_LR_parts⟩ ⟨Nat.le_of_ble_eq_true rfl, Nat.le_of_ble_eq_true rfl⟩ (Nat.le_of_ble_eq_true rfl) d_LR_minus_5 rfl ?_ (fun _ _ z => z)
  rintro _ _ ⟨v3, σ4, rfl, rfl, h⟩
  refine g_lmul hX d_LR_minus_8 ?_
  refine g_lload_n hX d_LR_minus_9 rfl 1 rfl ?_
  refine g_callS (k := 0) (n := 0) hX (c_LR_numerator h) hdT_LR_numerator hdO_LR_numerator t_1 t_336 t_337 ⟨⟨by decide, by decide⟩, np_LR_numerator⟩ ⟨Nat.le_of_ble_eq_true rfl, Nat.le_of_ble_eq_true rfl⟩ (Nat.le_of_ble_eq_true rfl) d_LR_minus_10 rfl ?_ (fun _ _ z => z)
  rintro _ _ ⟨v5, σ6, rfl, rfl, h⟩
  refine g_lload_n hX d_LR_minus_13 rfl 0 rfl ?_
  refine g_callS (k := 0) (n := 0) hX (c_LR_parts h) hdT_LR_parts hdO_LR_parts t_1 t_339 t_340 ⟨⟨by decide, by decide⟩, np_LR_parts⟩ ⟨Nat.le_of_ble_eq_true rfl, Nat.le_of_ble_eq_true rfl⟩ (Nat.le_of_ble_eq_true rfl) d_LR_minus_14 rfl ?_ (fun _ _ z => z)
  rintro _ _ ⟨v7, σ8, rfl, rfl, h⟩
  refine g_lmul hX d_LR_minus_17 ?_
  refine g_lsub hX d_LR_minus_18 ?_
  refine g_lload_n hX d_LR_minus_19 rfl 0 rfl ?_
  refine g_callS (k := 0) (n := 0) hX (c_LR_parts h) hdT_LR_parts hdO_LR_parts t_1 t_339 t_340 ⟨⟨by decide, by decide⟩, np_LR_parts⟩ ⟨Nat.le_of_ble_eq_true rfl, Nat.le_of_ble_eq_true rfl⟩ (Nat.le_of_ble_eq_true rfl) d_LR_minus_20 rfl ?_ (fun _ _ z => z)
  rintro _ _ ⟨v9, σ10, rfl, rfl, h⟩
  refine g_lload_n hX d_LR_minus_23 rfl 1 rfl ?_
  refine g_callS (k := 0) (n := 0) hX (c_LR_parts h) hdT_LR_parts hdO_LR_parts t_1 t_339 t_340 ⟨⟨by decide, by decide⟩, np_LR_parts⟩ ⟨Nat.le_of_ble_eq_true rfl, Nat.le_of_ble_eq_true rfl⟩ (Nat.le_of_ble_eq_true rfl) d_LR_minus_24 rfl ?_ (fun _ _ z => z)
  rintro _ _ ⟨v11, σ12, rfl, rfl, h⟩
  refine g_lmul hX d_LR_minus_27 ?_
  refine g_callS (k := 0) (n := 0) hX (c_LR_lowest h) hdT_LR_lowest hdO_LR_lowest t_1 t_352 t_353 ⟨⟨by decide, by decide⟩, np_LR_lowest⟩ ⟨Nat.le_of_ble_eq_true rfl, Nat.le_of_ble_eq_true rfl⟩ (Nat.le_of_ble_eq_true rfl) d_LR_minus_28 rfl ?_ (fun _ _ z => z)
  rintro _ _ ⟨v13, σ14, rfl, rfl, h⟩
  exact g_lret hX rfl d_LR_minus_31 ⟨_, _, rfl, rfl, h⟩
