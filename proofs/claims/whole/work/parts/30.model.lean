def wp_M_thrown (Γ : Ev)  (σ : St) (post : Int32 → St → Prop) (thr : String → St → Prop) : Prop := post (St.I (σ) 20 0) (σ)
abbrev rm_M_thrown : Room := { frames := 0, cells := 0, slots := 0, locals := 0 }
set_option maxRecDepth 100000 in
set_option maxHeartbeats 4000000 in
theorem c_M_thrown {l : Launch} {D : va_G} {AC : Nat → ClassId} {lo : Nat} {Γ : Ev}  {σ : St} {post : Int32 → St → Prop} {thr : String → St → Prop} (h : wp_M_thrown Γ  σ post thr) : Ct l y_M_thrown hd_M_thrown rm_M_thrown D AC lo [.ref (Γ.ad 324)] (wσ AC Γ σ) (pI AC Γ post) (tX AC Γ thr) := by
  refine Ct.of (by decide) (Nat.le_of_ble_eq_true rfl) ?_
  intro p e s m args below meth c hadm hX
  unfold wp_M_thrown at h
  show G p l e rm_M_thrown s m args below meth c 1 D lo (pI AC Γ post) (tX AC Γ thr) (wσ AC Γ (σ)) 0 0 0 [(0, .ref (Γ.ad 324))] []
  refine g_aload_n hX d_M_thrown_0 rfl 0 rfl ?_
  refine g_getf (i := 324) (kf := 0) hX (lt_c (by decide)) rfl (lay_MO (AC := AC) (Γ := Γ)) rfl in_M (by decide) t_805 (Or.inl rfl) rfl d_M_thrown_1 ?_
  exact g_iret hX rfl d_M_thrown_4 ⟨_, _, rfl, rfl, h⟩

def wp_M_isWarned (Γ : Ev) (x1 : Int32) (σ : St) (post : Int32 → St → Prop) (thr : String → St → Prop) : Prop := (vp_in x1 80 ∧ (((St.I (σ) 33 (x1).toNatClampNeg) = 0 → post (0 : Int32) (σ)) ∧ (¬ (St.I (σ) 33 (x1).toNatClampNeg) = 0 → post (1 : Int32) (σ))))
abbrev rm_M_isWarned : Room := { frames := 0, cells := 0, slots := 0, locals := 0 }
set_option maxRecDepth 100000 in
set_option maxHeartbeats 4000000 in
theorem c_M_isWarned {l : Launch} {D : va_G} {AC : Nat → ClassId} {lo : Nat} {Γ : Ev} {x1 : Int32} {σ : St} {post : Int32 → St → Prop} {thr : String → St → Prop} (h : wp_M_isWarned Γ x1 σ post thr) : Ct l y_M_isWarned hd_M_isWarned rm_M_isWarned D AC lo [.ref (Γ.ad 324), .int (x1)] (wσ AC Γ σ) (pI AC Γ post) (tX AC Γ thr) := by
  refine Ct.of (by decide) (Nat.le_of_ble_eq_true rfl) ?_
  intro p e s m args below meth c hadm hX
  unfold wp_M_isWarned at h
  show G p l e rm_M_isWarned s m args below meth c 2 D lo (pI AC Γ post) (tX AC Γ thr) (wσ AC Γ (σ)) 0 0 0 [(0, .ref (Γ.ad 324)), (1, .int (x1))] []
  refine g_aload_n hX d_M_isWarned_0 rfl 0 rfl ?_
  refine g_getf (i := 324) (kf := 18) hX (lt_c (by decide)) rfl (lay_MO (AC := AC) (Γ := Γ)) rfl in_M (by decide) t_823 (Or.inl rfl) rfl d_M_isWarned_1 ?_
  refine g_iload_n hX d_M_isWarned_4 rfl 1 rfl ?_
  obtain ⟨q1, h⟩ := h
  refine g_iald (i := 340) hX (lt_c (by decide)) rfl (lay_m15 (AC := AC) (Γ := Γ)) q1 d_M_isWarned_5 ?_
  refine g_if_eq (tgt := 13) hX d_M_isWarned_6 (by decide) (fun q2 => ?_) (fun q2 => ?_)
  · have h := h.1 q2
    refine g_iconst (v := 0) hX d_M_isWarned_13 (by decide) ?_
    exact g_zret hX rfl d_M_isWarned_14 (by decide) ⟨_, _, rfl, rfl, h⟩
  · have h := h.2 q2
    refine g_iconst (v := 1) hX d_M_isWarned_9 (by decide) ?_
    refine g_goto (tgt := 14) hX d_M_isWarned_10 (by decide) ?_
    exact g_zret hX rfl d_M_isWarned_14 (by decide) ⟨_, _, rfl, rfl, h⟩

def wp_M_divisor_6 (Γ : Ev)  (post : Int64 → St → Prop) (thr : String → St → Prop) : Nat → Int64 → Int64 → St → Prop
  | 0 => fun _ _ _ => False
  | fuel + 1 => fun x4 x6 σ => (((lg_cmp x6 (0 : Int64)) = 0 → post x4 (σ)) ∧ (¬ (lg_cmp x6 (0 : Int64)) = 0 → (¬ x6 = 0 ∧ wp_M_divisor_6 Γ  post thr fuel (x6) ((x4 - x4 / x6 * x6)) (σ))))
def wp_M_divisor (Γ : Ev) (x0 : Int64) (x2 : Int64) (σ : St) (post : Int64 → St → Prop) (thr : String → St → Prop) : Prop := (∃ f3, wp_M_divisor_6 Γ  post thr f3 (x0) (x2) (σ))
abbrev rm_M_divisor : Room := { frames := 0, cells := 0, slots := 0, locals := 0 }
set_option maxRecDepth 100000 in
set_option maxHeartbeats 4000000 in
theorem b_M_divisor_6 {p : Program} {l : Launch} {e : Env} {s : State} {m : MethodId} {args : Array Value} {below : List Frame} {meth : Method} {c : Code} {D : va_G} {AC : Nat → ClassId} {lo : Nat} {Γ : Ev} {post : Int64 → St → Prop} {thr : String → St → Prop} (hX : Cx p s m args meth c y_M_divisor b_M_divisor 10 (some .long) [] D AC lo)   : ∀ (fuel : Nat) (x4 : Int64) (x6 : Int64) (σ : St), wp_M_divisor_6 Γ  post thr fuel x4 x6 σ → G p l e rm_M_divisor s m args below meth c 10 D lo (pL AC Γ post) (tX AC Γ thr) (wσ AC Γ (σ)) 0 0 6 [(4, .long (x4)), (6, .long (x6))] [] := by
  intro fuel
  induction fuel with
  | zero => intro x4 x6 σ h; exact False.elim h
  | succ fuel ih =>
    intro x4 x6 σ h
    simp only [wp_M_divisor_6] at h
    refine g_lload hX d_M_divisor_6 1 rfl ?_
    refine g_lconst (v := 0) hX d_M_divisor_8 (by decide) ?_
    refine g_lcmp hX d_M_divisor_9 ?_
    refine g_if_eq (tgt := 31) hX d_M_divisor_10 (by decide) (fun q1 => ?_) (fun q1 => ?_)
    · have h := h.1 q1
      refine g_lload hX d_M_divisor_31 0 rfl ?_
      exact g_lret hX rfl d_M_divisor_33 ⟨_, _, rfl, rfl, h⟩
    · have h := h.2 q1
      refine g_lload hX d_M_divisor_13 0 rfl ?_
      refine g_lload hX d_M_divisor_15 1 rfl ?_
      obtain ⟨q2, h⟩ := h
      refine g_lrem hX d_M_divisor_17 q2 ?_
      refine g_lstore hX d_M_divisor_18 (by decide) rfl ?_
      refine g_lload hX d_M_divisor_20 2 rfl ?_
      refine g_lstore hX d_M_divisor_22 (by decide) rfl ?_
      refine g_lload hX d_M_divisor_24 1 rfl ?_
      refine g_lstore hX d_M_divisor_26 (by decide) rfl ?_
      refine g_goto (tgt := 6) hX d_M_divisor_28 (by decide) ?_
      refine g_sub [1, 0] rfl ?_
      exact ih (x6) ((x4 - x4 / x6 * x6)) (σ) h
set_option maxRecDepth 100000 in
set_option maxHeartbeats 4000000 in
theorem c_M_divisor {l : Launch} {D : va_G} {AC : Nat → ClassId} {lo : Nat} {Γ : Ev} {x0 : Int64} {x2 : Int64} {σ : St} {post : Int64 → St → Prop} {thr : String → St → Prop} (h : wp_M_divisor Γ x0 x2 σ post thr) : Ct l y_M_divisor hd_M_divisor rm_M_divisor D AC lo [.long (x0), .long (x2)] (wσ AC Γ σ) (pL AC Γ post) (tX AC Γ thr) := by
  refine Ct.of (by decide) (Nat.le_of_ble_eq_true rfl) ?_
  intro p e s m args below meth c hadm hX
  unfold wp_M_divisor at h
  show G p l e rm_M_divisor s m args below meth c 10 D lo (pL AC Γ post) (tX AC Γ thr) (wσ AC Γ (σ)) 0 0 0 [(0, .long (x0)), (2, .long (x2))] []
  refine g_lload_n hX d_M_divisor_0 rfl 0 rfl ?_
  refine g_lstore hX d_M_divisor_1 (by decide) rfl ?_
  refine g_lload_n hX d_M_divisor_3 rfl 2 rfl ?_
  refine g_lstore hX d_M_divisor_4 (by decide) rfl ?_
  refine g_sub [1, 0] rfl ?_
  obtain ⟨f3, h⟩ := h
  exact b_M_divisor_6 hX  f3 _ _ _ h

def wp_M_lowest (Γ : Ev) (x0 : Int64) (x2 : Int64) (σ : St) (post : Int64 → St → Prop) (thr : String → St → Prop) : Prop := ((¬ (lg_cmp x0 (0 : Int64)) = 0 → wp_M_divisor Γ (x0) (x2) (σ) (fun v2 σ3 => (¬ v2 = 0 ∧ post (x2 / v2) (σ3))) thr) ∧ ((lg_cmp x0 (0 : Int64)) = 0 → post (1 : Int64) (σ)))
abbrev rm_M_lowest : Room := { frames := 1, cells := 0, slots := 0, locals := 29 }
set_option maxRecDepth 100000 in
set_option maxHeartbeats 4000000 in
theorem c_M_lowest {l : Launch} {D : va_G} {AC : Nat → ClassId} {lo : Nat} {Γ : Ev} {x0 : Int64} {x2 : Int64} {σ : St} {post : Int64 → St → Prop} {thr : String → St → Prop} (h : wp_M_lowest Γ x0 x2 σ post thr) : Ct l y_M_lowest hd_M_lowest rm_M_lowest D AC lo [.long (x0), .long (x2)] (wσ AC Γ σ) (pL AC Γ post) (tX AC Γ thr) := by
  refine Ct.of (by decide) (Nat.le_of_ble_eq_true rfl) ?_
  intro p e s m args below meth c hadm hX
  unfold wp_M_lowest at h
  show G p l e rm_M_lowest s m args below meth c 4 D lo (pL AC Γ post) (tX AC Γ thr) (wσ AC Γ (σ)) 0 0 0 [(0, .long (x0)), (2, .long (x2))] []
  refine g_lload_n hX d_M_lowest_0 rfl 0 rfl ?_
  refine g_lconst (v := 0) hX d_M_lowest_1 (by decide) ?_
  refine g_lcmp hX d_M_lowest_2 ?_
  refine g_if_ne (tgt := 10) hX d_M_lowest_3 (by decide) (fun q1 => ?_) (fun q1 => ?_)
  · have h := h.1 q1
    refine g_lload_n hX d_M_lowest_10 rfl 1 rfl ?_
    refine g_lload_n hX d_M_lowest_11 rfl 0 rfl ?_
    refine g_lload_n hX d_M_lowest_12 rfl 1 rfl ?_
    refine g_callS (k := 0) (n := 0) hX (c_M_divisor h) hdT_M_divisor hdO_M_divisor t_3 t_765 t_766 ⟨⟨by decide, by decide⟩, np_M_divisor⟩ ⟨Nat.le_of_ble_eq_true rfl, Nat.le_of_ble_eq_true rfl⟩ (Nat.le_of_ble_eq_true rfl) d_M_lowest_13 rfl ?_ (fun _ _ z => z)
    rintro _ _ ⟨v2, σ3, rfl, rfl, h⟩
    obtain ⟨q4, h⟩ := h
    refine g_ldiv hX d_M_lowest_16 q4 ?_
    exact g_lret hX rfl d_M_lowest_17 ⟨_, _, rfl, rfl, h⟩
  · have h := h.2 q1
    refine g_lconst (v := 1) hX d_M_lowest_6 (by decide) ?_
    refine g_goto (tgt := 17) hX d_M_lowest_7 (by decide) ?_
    exact g_lret hX rfl d_M_lowest_17 ⟨_, _, rfl, rfl, h⟩

def wp_M_ofSale_168 (Γ : Ev)  (post : Int32 → St → Prop) (thr : String → St → Prop) (s0 : Int32) (σ : St) : Prop := ((s0 = 0 → post (0 : Int32) (σ)) ∧ (¬ s0 = 0 → post (4 : Int32) (σ)))
def wp_M_ofSale_163 (Γ : Ev)  (post : Int32 → St → Prop) (thr : String → St → Prop)  (σ : St) : Prop := wp_M_ofSale_168 Γ  post thr ((1 : Int32)) (σ)
def wp_M_ofSale (Γ : Ev) (x1 : Int32) (σ : St) (post : Int32 → St → Prop) (thr : String → St → Prop) : Prop := (vp_in x1 40 ∧ (vp_in x1 40 ∧ (vp_in x1 40 ∧ (vp_in x1 40 ∧ (vp_in x1 40 ∧ (vp_in (((8 : Int32) * (St.I (σ) 24 (x1).toNatClampNeg)) + ((St.I (σ) 25 (x1).toNatClampNeg) / (8 : Int32))) 640 ∧ (vp_in (((8 : Int32) * (St.I (σ) 24 (x1).toNatClampNeg)) + ((St.I (σ) 25 (x1).toNatClampNeg) / (8 : Int32))) 640 ∧ (vp_in (((8 : Int32) * (St.I (σ) 24 (x1).toNatClampNeg)) + ((St.I (σ) 25 (x1).toNatClampNeg) / (8 : Int32))) 640 ∧ (((lg_cmp (St.L (σ) 4 ((((8 : Int32) * (St.I (σ) 24 (x1).toNatClampNeg)) + ((St.I (σ) 25 (x1).toNatClampNeg) / (8 : Int32)))).toNatClampNeg) (0 : Int64)) = 0 → post (3 : Int32) (σ)) ∧ (¬ (lg_cmp (St.L (σ) 4 ((((8 : Int32) * (St.I (σ) 24 (x1).toNatClampNeg)) + ((St.I (σ) 25 (x1).toNatClampNeg) / (8 : Int32)))).toNatClampNeg) (0 : Int64)) = 0 → ((0 ≤ (lg_cmp (((St.L (σ) 4 ((((8 : Int32) * (St.I (σ) 24 (x1).toNatClampNeg)) + ((St.I (σ) 25 (x1).toNatClampNeg) / (8 : Int32)))).toNatClampNeg) * (Int32.toInt64 (St.I (σ) 27 (x1).toNatClampNeg))) - ((Int32.toInt64 (St.I (σ) 26 (x1).toNatClampNeg)) * (St.L (σ) 5 ((((8 : Int32) * (St.I (σ) 24 (x1).toNatClampNeg)) + ((St.I (σ) 25 (x1).toNatClampNeg) / (8 : Int32)))).toNatClampNeg))) (0 : Int64)) → (vp_in (((8 : Int32) * (St.I (σ) 24 (x1).toNatClampNeg)) + ((St.I (σ) 25 (x1).toNatClampNeg) - (St.I (σ) 25 (x1).toNatClampNeg) / (8 : Int32) * (8 : Int32))) 640 ∧ (vp_in (((8 : Int32) * (St.I (σ) 24 (x1).toNatClampNeg)) + ((St.I (σ) 25 (x1).toNatClampNeg) - (St.I (σ) 25 (x1).toNatClampNeg) / (8 : Int32) * (8 : Int32))) 640 ∧ (vp_in (((8 : Int32) * (St.I (σ) 24 (x1).toNatClampNeg)) + ((St.I (σ) 25 (x1).toNatClampNeg) / (8 : Int32))) 640 ∧ wp_M_lowest Γ ((((St.L (σ) 4 ((((8 : Int32) * (St.I (σ) 24 (x1).toNatClampNeg)) + ((St.I (σ) 25 (x1).toNatClampNeg) / (8 : Int32)))).toNatClampNeg) * (Int32.toInt64 (St.I (σ) 27 (x1).toNatClampNeg))) - ((Int32.toInt64 (St.I (σ) 26 (x1).toNatClampNeg)) * (St.L (σ) 5 ((((8 : Int32) * (St.I (σ) 24 (x1).toNatClampNeg)) + ((St.I (σ) 25 (x1).toNatClampNeg) / (8 : Int32)))).toNatClampNeg)))) (((St.L (σ) 5 ((((8 : Int32) * (St.I (σ) 24 (x1).toNatClampNeg)) + ((St.I (σ) 25 (x1).toNatClampNeg) / (8 : Int32)))).toNatClampNeg) * (Int32.toInt64 (St.I (σ) 27 (x1).toNatClampNeg)))) (σ) (fun v14 σ15 => ((0 < (lg_cmp v14 (1000000 : Int64)) → wp_M_ofSale_163 Γ  post thr  (σ15)) ∧ (¬ 0 < (lg_cmp v14 (1000000 : Int64)) → (vp_in (((8 : Int32) * (St.I (σ) 24 (x1).toNatClampNeg)) + ((St.I (σ) 25 (x1).toNatClampNeg) - (St.I (σ) 25 (x1).toNatClampNeg) / (8 : Int32) * (8 : Int32))) 640 ∧ wp_M_lowest Γ ((((St.L (σ) 4 ((((8 : Int32) * (St.I (σ) 24 (x1).toNatClampNeg)) + ((St.I (σ) 25 (x1).toNatClampNeg) - (St.I (σ) 25 (x1).toNatClampNeg) / (8 : Int32) * (8 : Int32)))).toNatClampNeg) * (Int32.toInt64 (St.I (σ) 27 (x1).toNatClampNeg))) + ((Int32.toInt64 (St.I (σ) 26 (x1).toNatClampNeg)) * (St.L (σ) 5 ((((8 : Int32) * (St.I (σ) 24 (x1).toNatClampNeg)) + ((St.I (σ) 25 (x1).toNatClampNeg) - (St.I (σ) 25 (x1).toNatClampNeg) / (8 : Int32) * (8 : Int32)))).toNatClampNeg)))) (((St.L (σ15) 5 ((((8 : Int32) * (St.I (σ) 24 (x1).toNatClampNeg)) + ((St.I (σ) 25 (x1).toNatClampNeg) - (St.I (σ) 25 (x1).toNatClampNeg) / (8 : Int32) * (8 : Int32)))).toNatClampNeg) * (Int32.toInt64 (St.I (σ) 27 (x1).toNatClampNeg)))) (σ15) (fun v19 σ20 => (((lg_cmp v19 (1000000 : Int64)) ≤ 0 → wp_M_ofSale_168 Γ  post thr ((0 : Int32)) (σ20)) ∧ (¬ (lg_cmp v19 (1000000 : Int64)) ≤ 0 → wp_M_ofSale_163 Γ  post thr  (σ20)))) thr)))) thr)))) ∧ (¬ 0 ≤ (lg_cmp (((St.L (σ) 4 ((((8 : Int32) * (St.I (σ) 24 (x1).toNatClampNeg)) + ((St.I (σ) 25 (x1).toNatClampNeg) / (8 : Int32)))).toNatClampNeg) * (Int32.toInt64 (St.I (σ) 27 (x1).toNatClampNeg))) - ((Int32.toInt64 (St.I (σ) 26 (x1).toNatClampNeg)) * (St.L (σ) 5 ((((8 : Int32) * (St.I (σ) 24 (x1).toNatClampNeg)) + ((St.I (σ) 25 (x1).toNatClampNeg) / (8 : Int32)))).toNatClampNeg))) (0 : Int64)) → post (3 : Int32) (σ)))))))))))))
abbrev rm_M_ofSale : Room := { frames := 2, cells := 0, slots := 0, locals := 52 }
set_option maxRecDepth 100000 in
set_option maxHeartbeats 4000000 in
theorem b_M_ofSale_168 {p : Program} {l : Launch} {e : Env} {s : State} {m : MethodId} {args : Array Value} {below : List Frame} {meth : Method} {c : Code} {D : va_G} {AC : Nat → ClassId} {lo : Nat} {Γ : Ev} {post : Int32 → St → Prop} {thr : String → St → Prop} (hX : Cx p s m args meth c y_M_ofSale b_M_ofSale 14 (some .int) [] D AC lo)   (s0 : Int32) (σ : St) (h : wp_M_ofSale_168 Γ  post thr s0 σ) : G p l e rm_M_ofSale s m args below meth c 14 D lo (pI AC Γ post) (tX AC Γ thr) (wσ AC Γ (σ)) 0 0 168 [] [.int (s0)] := by
  unfold wp_M_ofSale_168 at h
  refine g_istore hX d_M_ofSale_168 (by decide) rfl ?_
  refine g_iload hX d_M_ofSale_170 0 rfl ?_
  refine g_if_eq (tgt := 179) hX d_M_ofSale_172 (by decide) (fun q17 => ?_) (fun q17 => ?_)
  · have h := h.1 q17
    refine g_iconst (v := 0) hX d_M_ofSale_179 (by decide) ?_
    exact g_iret hX rfl d_M_ofSale_180 ⟨_, _, rfl, rfl, h⟩
  · have h := h.2 q17
    refine g_iconst (v := 4) hX d_M_ofSale_175 (by decide) ?_
    refine g_goto (tgt := 180) hX d_M_ofSale_176 (by decide) ?_
    exact g_iret hX rfl d_M_ofSale_180 ⟨_, _, rfl, rfl, h⟩
set_option maxRecDepth 100000 in
set_option maxHeartbeats 4000000 in
theorem b_M_ofSale_163 {p : Program} {l : Launch} {e : Env} {s : State} {m : MethodId} {args : Array Value} {below : List Frame} {meth : Method} {c : Code} {D : va_G} {AC : Nat → ClassId} {lo : Nat} {Γ : Ev} {post : Int32 → St → Prop} {thr : String → St → Prop} (hX : Cx p s m args meth c y_M_ofSale b_M_ofSale 14 (some .int) [] D AC lo)    (σ : St) (h : wp_M_ofSale_163 Γ  post thr  σ) : G p l e rm_M_ofSale s m args below meth c 14 D lo (pI AC Γ post) (tX AC Γ thr) (wσ AC Γ (σ)) 0 0 163 [] [] := by
  unfold wp_M_ofSale_163 at h
  refine g_iconst (v := 1) hX d_M_ofSale_163 (by decide) ?_
  refine g_goto (tgt := 168) hX d_M_ofSale_164 (by decide) ?_
  refine g_sub [] rfl ?_
  exact b_M_ofSale_168 hX  _ _ h
set_option maxRecDepth 100000 in
set_option maxHeartbeats 4000000 in
theorem c_M_ofSale {l : Launch} {D : va_G} {AC : Nat → ClassId} {lo : Nat} {Γ : Ev} {x1 : Int32} {σ : St} {post : Int32 → St → Prop} {thr : String → St → Prop} (h : wp_M_ofSale Γ x1 σ post thr) : Ct l y_M_ofSale hd_M_ofSale rm_M_ofSale D AC lo [.ref (Γ.ad 324), .int (x1)] (wσ AC Γ σ) (pI AC Γ post) (tX AC Γ thr) := by
  refine Ct.of (by decide) (Nat.le_of_ble_eq_true rfl) ?_
  intro p e s m args below meth c hadm hX
  unfold wp_M_ofSale at h
  show G p l e rm_M_ofSale s m args below meth c 14 D lo (pI AC Γ post) (tX AC Γ thr) (wσ AC Γ (σ)) 0 0 0 [(0, .ref (Γ.ad 324)), (1, .int (x1))] []
  refine g_aload_n hX d_M_ofSale_0 rfl 0 rfl ?_
  refine g_getf (i := 324) (kf := 6) hX (lt_c (by decide)) rfl (lay_MO (AC := AC) (Γ := Γ)) rfl in_M (by decide) t_811 (Or.inl rfl) rfl d_M_ofSale_1 ?_
  refine g_iload_n hX d_M_ofSale_4 rfl 1 rfl ?_
  obtain ⟨q1, h⟩ := h
  refine g_iald (i := 328) hX (lt_c (by decide)) rfl (lay_m3 (AC := AC) (Γ := Γ)) q1 d_M_ofSale_5 ?_
  refine g_istore_n hX d_M_ofSale_6 rfl (by decide) rfl ?_
  refine g_bipush (v := 8) hX d_M_ofSale_7 (by decide) ?_
  refine g_iload_n hX d_M_ofSale_9 rfl 0 rfl ?_
  refine g_imul hX d_M_ofSale_10 ?_
  refine g_aload_n hX d_M_ofSale_11 rfl 1 rfl ?_
  refine g_getf (i := 324) (kf := 7) hX (lt_c (by decide)) rfl (lay_MO (AC := AC) (Γ := Γ)) rfl in_M (by decide) t_812 (Or.inl rfl) rfl d_M_ofSale_12 ?_
  refine g_iload_n hX d_M_ofSale_15 rfl 2 rfl ?_
  obtain ⟨q2, h⟩ := h
  refine g_iald (i := 329) hX (lt_c (by decide)) rfl (lay_m4 (AC := AC) (Γ := Γ)) q2 d_M_ofSale_16 ?_
  refine g_bipush (v := 8) hX d_M_ofSale_17 (by decide) ?_
  refine g_idiv hX d_M_ofSale_19 (by decide) ?_
  refine g_iadd hX d_M_ofSale_20 ?_
  refine g_istore_n hX d_M_ofSale_21 rfl (by decide) rfl ?_
  refine g_bipush (v := 8) hX d_M_ofSale_22 (by decide) ?_
  refine g_iload_n hX d_M_ofSale_24 rfl 1 rfl ?_
  refine g_imul hX d_M_ofSale_25 ?_
  refine g_aload_n hX d_M_ofSale_26 rfl 2 rfl ?_
  refine g_getf (i := 324) (kf := 7) hX (lt_c (by decide)) rfl (lay_MO (AC := AC) (Γ := Γ)) rfl in_M (by decide) t_812 (Or.inl rfl) rfl d_M_ofSale_27 ?_
  refine g_iload_n hX d_M_ofSale_30 rfl 3 rfl ?_
  obtain ⟨q3, h⟩ := h
  refine g_iald (i := 329) hX (lt_c (by decide)) rfl (lay_m4 (AC := AC) (Γ := Γ)) q3 d_M_ofSale_31 ?_
  refine g_bipush (v := 8) hX d_M_ofSale_32 (by decide) ?_
  refine g_irem hX d_M_ofSale_34 (by decide) ?_
  refine g_iadd hX d_M_ofSale_35 ?_
  refine g_istore hX d_M_ofSale_36 (by decide) rfl ?_
  refine g_aload_n hX d_M_ofSale_38 rfl 3 rfl ?_
  refine g_getf (i := 324) (kf := 8) hX (lt_c (by decide)) rfl (lay_MO (AC := AC) (Γ := Γ)) rfl in_M (by decide) t_813 (Or.inl rfl) rfl d_M_ofSale_39 ?_
  refine g_iload_n hX d_M_ofSale_42 rfl 4 rfl ?_
  obtain ⟨q4, h⟩ := h
  refine g_iald (i := 330) hX (lt_c (by decide)) rfl (lay_m5 (AC := AC) (Γ := Γ)) q4 d_M_ofSale_43 ?_
  refine g_i2l hX d_M_ofSale_44 ?_
  refine g_lstore hX d_M_ofSale_45 (by decide) rfl ?_
  refine g_aload_n hX d_M_ofSale_47 rfl 4 rfl ?_
  refine g_getf (i := 324) (kf := 9) hX (lt_c (by decide)) rfl (lay_MO (AC := AC) (Γ := Γ)) rfl in_M (by decide) t_814 (Or.inl rfl) rfl d_M_ofSale_48 ?_
  refine g_iload_n hX d_M_ofSale_51 rfl 5 rfl ?_
  obtain ⟨q5, h⟩ := h
  refine g_iald (i := 331) hX (lt_c (by decide)) rfl (lay_m6 (AC := AC) (Γ := Γ)) q5 d_M_ofSale_52 ?_
  refine g_i2l hX d_M_ofSale_53 ?_
  refine g_lstore hX d_M_ofSale_54 (by decide) rfl ?_
  refine g_aload_n hX d_M_ofSale_56 rfl 5 rfl ?_
  refine g_getf (i := 324) (kf := 13) hX (lt_c (by decide)) rfl (lay_MO (AC := AC) (Γ := Γ)) rfl in_M (by decide) t_818 (Or.inl rfl) rfl d_M_ofSale_57 ?_
  refine g_iload_n hX d_M_ofSale_60 rfl 3 rfl ?_
  obtain ⟨q6, h⟩ := h
  refine g_lald (i := 335) hX (lt_c (by decide)) rfl (lay_m10 (AC := AC) (Γ := Γ)) q6 d_M_ofSale_61 ?_
  refine g_lload hX d_M_ofSale_62 0 rfl ?_
  refine g_lmul hX d_M_ofSale_64 ?_
  refine g_lload hX d_M_ofSale_65 1 rfl ?_
  refine g_aload_n hX d_M_ofSale_67 rfl 5 rfl ?_
  refine g_getf (i := 324) (kf := 14) hX (lt_c (by decide)) rfl (lay_MO (AC := AC) (Γ := Γ)) rfl in_M (by decide) t_819 (Or.inl rfl) rfl d_M_ofSale_68 ?_
  refine g_iload_n hX d_M_ofSale_71 rfl 3 rfl ?_
  obtain ⟨q7, h⟩ := h
  refine g_lald (i := 336) hX (lt_c (by decide)) rfl (lay_m11 (AC := AC) (Γ := Γ)) q7 d_M_ofSale_72 ?_
  refine g_lmul hX d_M_ofSale_73 ?_
  refine g_lsub hX d_M_ofSale_74 ?_
  refine g_lstore hX d_M_ofSale_75 (by decide) rfl ?_
  refine g_aload_n hX d_M_ofSale_77 rfl 6 rfl ?_
  refine g_getf (i := 324) (kf := 13) hX (lt_c (by decide)) rfl (lay_MO (AC := AC) (Γ := Γ)) rfl in_M (by decide) t_818 (Or.inl rfl) rfl d_M_ofSale_78 ?_
  refine g_iload_n hX d_M_ofSale_81 rfl 4 rfl ?_
  obtain ⟨q8, h⟩ := h
  refine g_lald (i := 335) hX (lt_c (by decide)) rfl (lay_m10 (AC := AC) (Γ := Γ)) q8 d_M_ofSale_82 ?_
  refine g_lconst (v := 0) hX d_M_ofSale_83 (by decide) ?_
  refine g_lcmp hX d_M_ofSale_84 ?_
  refine g_if_eq (tgt := 95) hX d_M_ofSale_85 (by decide) (fun q9 => ?_) (fun q9 => ?_)
  · have h := h.1 q9
    refine g_iconst (v := 3) hX d_M_ofSale_95 (by decide) ?_
    exact g_iret hX rfl d_M_ofSale_96 ⟨_, _, rfl, rfl, h⟩
  · have h := h.2 q9
    refine g_lload hX d_M_ofSale_88 0 rfl ?_
    refine g_lconst (v := 0) hX d_M_ofSale_90 (by decide) ?_
    refine g_lcmp hX d_M_ofSale_91 ?_
    refine g_if_ge (tgt := 97) hX d_M_ofSale_92 (by decide) (fun q10 => ?_) (fun q10 => ?_)
    · have h := h.1 q10
      refine g_aload_n hX d_M_ofSale_97 rfl 6 rfl ?_
      refine g_getf (i := 324) (kf := 13) hX (lt_c (by decide)) rfl (lay_MO (AC := AC) (Γ := Γ)) rfl in_M (by decide) t_818 (Or.inl rfl) rfl d_M_ofSale_98 ?_
      refine g_iload hX d_M_ofSale_101 3 rfl ?_
      obtain ⟨q11, h⟩ := h
      refine g_lald (i := 335) hX (lt_c (by decide)) rfl (lay_m10 (AC := AC) (Γ := Γ)) q11 d_M_ofSale_103 ?_
      refine g_lload hX d_M_ofSale_104 1 rfl ?_
      refine g_lmul hX d_M_ofSale_106 ?_
      refine g_lload hX d_M_ofSale_107 2 rfl ?_
      refine g_aload_n hX d_M_ofSale_109 rfl 6 rfl ?_
      refine g_getf (i := 324) (kf := 14) hX (lt_c (by decide)) rfl (lay_MO (AC := AC) (Γ := Γ)) rfl in_M (by decide) t_819 (Or.inl rfl) rfl d_M_ofSale_110 ?_
      refine g_iload hX d_M_ofSale_113 3 rfl ?_
      obtain ⟨q12, h⟩ := h
      refine g_lald (i := 336) hX (lt_c (by decide)) rfl (lay_m11 (AC := AC) (Γ := Γ)) q12 d_M_ofSale_115 ?_
      refine g_lmul hX d_M_ofSale_116 ?_
      refine g_ladd hX d_M_ofSale_117 ?_
      refine g_lstore hX d_M_ofSale_118 (by decide) rfl ?_
      refine g_lload hX d_M_ofSale_120 1 rfl ?_
      refine g_aload_n hX d_M_ofSale_122 rfl 7 rfl ?_
      refine g_getf (i := 324) (kf := 14) hX (lt_c (by decide)) rfl (lay_MO (AC := AC) (Γ := Γ)) rfl in_M (by decide) t_819 (Or.inl rfl) rfl d_M_ofSale_123 ?_
      refine g_iload_n hX d_M_ofSale_126 rfl 5 rfl ?_
      obtain ⟨q13, h⟩ := h
      refine g_lald (i := 336) hX (lt_c (by decide)) rfl (lay_m11 (AC := AC) (Γ := Γ)) q13 d_M_ofSale_127 ?_
      refine g_lload hX d_M_ofSale_128 2 rfl ?_
      refine g_lmul hX d_M_ofSale_130 ?_
      refine g_callS (k := 0) (n := 0) hX (c_M_lowest h) hdT_M_lowest hdO_M_lowest t_3 t_762 t_763 ⟨⟨by decide, by decide⟩, np_M_lowest⟩ ⟨Nat.le_of_ble_eq_true rfl, Nat.le_of_ble_eq_true rfl⟩ (Nat.le_of_ble_eq_true rfl) d_M_ofSale_131 rfl ?_ (fun _ _ z => z)
      rintro _ _ ⟨v14, σ15, rfl, rfl, h⟩
      refine g_ldc2 (v := 1000000) hX t_768 d_M_ofSale_134 ?_
      refine g_lcmp hX d_M_ofSale_137 ?_
      refine g_if_gt (tgt := 163) hX d_M_ofSale_138 (by decide) (fun q16 => ?_) (fun q16 => ?_)
      · have h := h.1 q16
        refine g_sub [] rfl ?_
        exact b_M_ofSale_163 hX   _ h
      · have h := h.2 q16
        refine g_lload hX d_M_ofSale_141 0 rfl ?_
        refine g_aload_n hX d_M_ofSale_143 rfl 7 rfl ?_
        refine g_getf (i := 324) (kf := 14) hX (lt_c (by decide)) rfl (lay_MO (AC := AC) (Γ := Γ)) rfl in_M (by decide) t_819 (Or.inl rfl) rfl d_M_ofSale_144 ?_
        refine g_iload hX d_M_ofSale_147 4 rfl ?_
        obtain ⟨q18, h⟩ := h
        refine g_lald (i := 336) hX (lt_c (by decide)) rfl (lay_m11 (AC := AC) (Γ := Γ)) q18 d_M_ofSale_149 ?_
        refine g_lload hX d_M_ofSale_150 2 rfl ?_
        refine g_lmul hX d_M_ofSale_152 ?_
        refine g_callS (k := 0) (n := 0) hX (c_M_lowest h) hdT_M_lowest hdO_M_lowest t_3 t_762 t_763 ⟨⟨by decide, by decide⟩, np_M_lowest⟩ ⟨Nat.le_of_ble_eq_true rfl, Nat.le_of_ble_eq_true rfl⟩ (Nat.le_of_ble_eq_true rfl) d_M_ofSale_153 rfl ?_ (fun _ _ z => z)
        rintro _ _ ⟨v19, σ20, rfl, rfl, h⟩
        refine g_ldc2 (v := 1000000) hX t_768 d_M_ofSale_156 ?_
        refine g_lcmp hX d_M_ofSale_159 ?_
        refine g_if_le (tgt := 167) hX d_M_ofSale_160 (by decide) (fun q21 => ?_) (fun q21 => ?_)
        · have h := h.1 q21
          refine g_iconst (v := 0) hX d_M_ofSale_167 (by decide) ?_
          refine g_sub [] rfl ?_
          exact b_M_ofSale_168 hX  _ _ h
        · have h := h.2 q21
          refine g_sub [] rfl ?_
          exact b_M_ofSale_163 hX   _ h
    · have h := h.2 q10
      refine g_iconst (v := 3) hX d_M_ofSale_95 (by decide) ?_
      exact g_iret hX rfl d_M_ofSale_96 ⟨_, _, rfl, rfl, h⟩

def wp_M_agreed_185 (Γ : Ev) (k31 : Int32 → Int32 → Int32 → Int32 → Int32 → Int32 → Int32 → St → Prop) (post : Int32 → St → Prop) (thr : String → St → Prop) (x1 : Int32) (x2 : Int32) (x3 : Int32) (x4 : Int32) (x5 : Int32) (x7 : Int32) (s0 : Int32) (σ : St) : Prop := k31 (x1) (x2) (x3) (x4) (x5) (s0) ((x7 + 1)) (σ)
def wp_M_agreed_183 (Γ : Ev) (k31 : Int32 → Int32 → Int32 → Int32 → Int32 → Int32 → Int32 → St → Prop) (post : Int32 → St → Prop) (thr : String → St → Prop) (x1 : Int32) (x2 : Int32) (x3 : Int32) (x4 : Int32) (x5 : Int32) (x6 : Int32) (x7 : Int32) (σ : St) : Prop := wp_M_agreed_185 Γ k31 post thr (x1) (x2) (x3) (x4) (x5) (x7) (x6) (σ)
def wp_M_agreed_175 (Γ : Ev) (k31 : Int32 → Int32 → Int32 → Int32 → Int32 → Int32 → Int32 → St → Prop) (post : Int32 → St → Prop) (thr : String → St → Prop) (x1 : Int32) (x2 : Int32) (x3 : Int32) (x4 : Int32) (x5 : Int32) (x6 : Int32) (x7 : Int32) (x8 : Int32) (σ : St) : Prop := wp_M_agreed_185 Γ k31 post thr (x1) (x2) (x3) (x4) (x5) (x7) ((x6 ||| x8)) (σ)
def wp_M_agreed_164 (Γ : Ev) (k31 : Int32 → Int32 → Int32 → Int32 → Int32 → Int32 → Int32 → St → Prop) (post : Int32 → St → Prop) (thr : String → St → Prop) (x1 : Int32) (x2 : Int32) (x3 : Int32) (x4 : Int32) (x5 : Int32) (x6 : Int32) (x7 : Int32) (x8 : Int32) (x10 : Int32) (σ : St) : Prop := ((x10 = 0 → wp_M_agreed_183 Γ k31 post thr (x1) (x2) (x3) (x4) (x5) (x6) (x7) (σ)) ∧ (¬ x10 = 0 → ((x4 ≤ x3 → wp_M_agreed_183 Γ k31 post thr (x1) (x2) (x3) (x4) (x5) (x6) (x7) (σ)) ∧ (¬ x4 ≤ x3 → wp_M_agreed_175 Γ k31 post thr (x1) (x2) (x3) (x4) (x5) (x6) (x7) (x8) (σ)))))
def wp_M_agreed_151 (Γ : Ev) (k31 : Int32 → Int32 → Int32 → Int32 → Int32 → Int32 → Int32 → St → Prop) (post : Int32 → St → Prop) (thr : String → St → Prop) (x1 : Int32) (x2 : Int32) (x3 : Int32) (x4 : Int32) (x6 : Int32) (x7 : Int32) (x8 : Int32) (x9 : Int32) (x10 : Int32) (s0 : Int32) (σ : St) : Prop := ((x9 = 0 → wp_M_agreed_164 Γ k31 post thr (x1) (x2) (x3) (x4) (s0) (x6) (x7) (x8) (x10) (σ)) ∧ (¬ x9 = 0 → ((x4 < x3 → wp_M_agreed_175 Γ k31 post thr (x1) (x2) (x3) (x4) (s0) (x6) (x7) (x8) (σ)) ∧ (¬ x4 < x3 → wp_M_agreed_164 Γ k31 post thr (x1) (x2) (x3) (x4) (s0) (x6) (x7) (x8) (x10) (σ)))))
def wp_M_agreed_149 (Γ : Ev) (k31 : Int32 → Int32 → Int32 → Int32 → Int32 → Int32 → Int32 → St → Prop) (post : Int32 → St → Prop) (thr : String → St → Prop) (x1 : Int32) (x2 : Int32) (x3 : Int32) (x4 : Int32) (x5 : Int32) (x6 : Int32) (x7 : Int32) (x8 : Int32) (x9 : Int32) (x10 : Int32) (σ : St) : Prop := wp_M_agreed_151 Γ k31 post thr (x1) (x2) (x3) (x4) (x6) (x7) (x8) (x9) (x10) (x5) (σ)
def wp_M_agreed_141 (Γ : Ev) (k31 : Int32 → Int32 → Int32 → Int32 → Int32 → Int32 → Int32 → St → Prop) (post : Int32 → St → Prop) (thr : String → St → Prop) (x1 : Int32) (x2 : Int32) (x3 : Int32) (x4 : Int32) (x5 : Int32) (x6 : Int32) (x7 : Int32) (x8 : Int32) (x9 : Int32) (x10 : Int32) (σ : St) : Prop := wp_M_agreed_151 Γ k31 post thr (x1) (x2) (x3) (x4) (x6) (x7) (x8) (x9) (x10) ((x5 ||| x8)) (σ)
def wp_M_agreed_130 (Γ : Ev) (k31 : Int32 → Int32 → Int32 → Int32 → Int32 → Int32 → Int32 → St → Prop) (post : Int32 → St → Prop) (thr : String → St → Prop) (x1 : Int32) (x2 : Int32) (x3 : Int32) (x4 : Int32) (x5 : Int32) (x6 : Int32) (x7 : Int32) (x8 : Int32) (x9 : Int32) (x10 : Int32) (σ : St) : Prop := ((x10 = 0 → wp_M_agreed_149 Γ k31 post thr (x1) (x2) (x3) (x4) (x5) (x6) (x7) (x8) (x9) (x10) (σ)) ∧ (¬ x10 = 0 → ((x3 ≤ x4 → wp_M_agreed_149 Γ k31 post thr (x1) (x2) (x3) (x4) (x5) (x6) (x7) (x8) (x9) (x10) (σ)) ∧ (¬ x3 ≤ x4 → wp_M_agreed_141 Γ k31 post thr (x1) (x2) (x3) (x4) (x5) (x6) (x7) (x8) (x9) (x10) (σ)))))
def wp_M_agreed_117 (Γ : Ev) (k31 : Int32 → Int32 → Int32 → Int32 → Int32 → Int32 → Int32 → St → Prop) (post : Int32 → St → Prop) (thr : String → St → Prop) (x1 : Int32) (x2 : Int32) (x3 : Int32) (x4 : Int32) (x5 : Int32) (x6 : Int32) (x7 : Int32) (x8 : Int32) (x9 : Int32) (s0 : Int32) (σ : St) : Prop := ((x9 = 0 → wp_M_agreed_130 Γ k31 post thr (x1) (x2) (x3) (x4) (x5) (x6) (x7) (x8) (x9) (s0) (σ)) ∧ (¬ x9 = 0 → ((x3 < x4 → wp_M_agreed_141 Γ k31 post thr (x1) (x2) (x3) (x4) (x5) (x6) (x7) (x8) (x9) (s0) (σ)) ∧ (¬ x3 < x4 → wp_M_agreed_130 Γ k31 post thr (x1) (x2) (x3) (x4) (x5) (x6) (x7) (x8) (x9) (s0) (σ)))))
def wp_M_agreed_116 (Γ : Ev) (k31 : Int32 → Int32 → Int32 → Int32 → Int32 → Int32 → Int32 → St → Prop) (post : Int32 → St → Prop) (thr : String → St → Prop) (x1 : Int32) (x2 : Int32) (x3 : Int32) (x4 : Int32) (x5 : Int32) (x6 : Int32) (x7 : Int32) (x8 : Int32) (x9 : Int32) (σ : St) : Prop := wp_M_agreed_117 Γ k31 post thr (x1) (x2) (x3) (x4) (x5) (x6) (x7) (x8) (x9) ((0 : Int32)) (σ)
def wp_M_agreed_95 (Γ : Ev) (k31 : Int32 → Int32 → Int32 → Int32 → Int32 → Int32 → Int32 → St → Prop) (post : Int32 → St → Prop) (thr : String → St → Prop) (x1 : Int32) (x2 : Int32) (x3 : Int32) (x4 : Int32) (x5 : Int32) (x6 : Int32) (x7 : Int32) (x8 : Int32) (x9 : Int32) (σ : St) : Prop := wp_M_agreed_117 Γ k31 post thr (x1) (x2) (x3) (x4) (x5) (x6) (x7) (x8) (x9) ((0 : Int32)) (σ)
def wp_M_agreed_70 (Γ : Ev) (k31 : Int32 → Int32 → Int32 → Int32 → Int32 → Int32 → Int32 → St → Prop) (post : Int32 → St → Prop) (thr : String → St → Prop) (x1 : Int32) (x2 : Int32) (x3 : Int32) (x4 : Int32) (x5 : Int32) (x6 : Int32) (x7 : Int32) (x8 : Int32) (s0 : Int32) (σ : St) : Prop := ((x4 ≤ x3 → ((x7 < x4 → wp_M_agreed_116 Γ k31 post thr (x1) (x2) (x3) (x4) (x5) (x6) (x7) (x8) (s0) (σ)) ∧ (¬ x7 < x4 → ((x3 ≤ x7 → wp_M_agreed_116 Γ k31 post thr (x1) (x2) (x3) (x4) (x5) (x6) (x7) (x8) (s0) (σ)) ∧ (¬ x3 ≤ x7 → wp_M_agreed_117 Γ k31 post thr (x1) (x2) (x3) (x4) (x5) (x6) (x7) (x8) (s0) ((1 : Int32)) (σ)))))) ∧ (¬ x4 ≤ x3 → ((x7 ≤ x3 → wp_M_agreed_95 Γ k31 post thr (x1) (x2) (x3) (x4) (x5) (x6) (x7) (x8) (s0) (σ)) ∧ (¬ x7 ≤ x3 → ((x4 < x7 → wp_M_agreed_95 Γ k31 post thr (x1) (x2) (x3) (x4) (x5) (x6) (x7) (x8) (s0) (σ)) ∧ (¬ x4 < x7 → wp_M_agreed_117 Γ k31 post thr (x1) (x2) (x3) (x4) (x5) (x6) (x7) (x8) (s0) ((1 : Int32)) (σ)))))))
def wp_M_agreed_31 (Γ : Ev)  (post : Int32 → St → Prop) (thr : String → St → Prop) : Nat → Int32 → Int32 → Int32 → Int32 → Int32 → Int32 → Int32 → St → Prop
  | 0 => fun _ _ _ _ _ _ _ _ => False
  | fuel + 1 => fun x1 x2 x3 x4 x5 x6 x7 σ => (vp_in x2 80 ∧ (((St.I (σ) 30 (x2).toNatClampNeg) < x7 → (vp_in x1 40 ∧ ((¬ ((x5 &&& (x6 ^^^ (-1 : Int32))) &&& ((St.I (σ) 27 (x1).toNatClampNeg) ^^^ (-1 : Int32))) = 0 → post (0 : Int32) (σ)) ∧ (((x5 &&& (x6 ^^^ (-1 : Int32))) &&& ((St.I (σ) 27 (x1).toNatClampNeg) ^^^ (-1 : Int32))) = 0 → post (1 : Int32) (σ))))) ∧ (¬ (St.I (σ) 30 (x2).toNatClampNeg) < x7 → (vp_in ((((4 : Int32) * x2) + x7) - (1 : Int32)) 320 ∧ ((¬ x7 = x3 → wp_M_agreed_70 Γ (fun x1 x2 x3 x4 x5 x6 x7 σ => wp_M_agreed_31 Γ  post thr fuel x1 x2 x3 x4 x5 x6 x7 σ) post thr (x1) (x2) (x3) (x4) (x5) (x6) (x7) (((1 : Int32) <<< ((St.I (σ) 31 (((((4 : Int32) * x2) + x7) - (1 : Int32))).toNatClampNeg) &&& 31))) ((0 : Int32)) (σ)) ∧ (x7 = x3 → wp_M_agreed_70 Γ (fun x1 x2 x3 x4 x5 x6 x7 σ => wp_M_agreed_31 Γ  post thr fuel x1 x2 x3 x4 x5 x6 x7 σ) post thr (x1) (x2) (x3) (x4) (x5) (x6) (x7) (((1 : Int32) <<< ((St.I (σ) 31 (((((4 : Int32) * x2) + x7) - (1 : Int32))).toNatClampNeg) &&& 31))) ((1 : Int32)) (σ)))))))
def wp_M_agreed (Γ : Ev) (x1 : Int32) (σ : St) (post : Int32 → St → Prop) (thr : String → St → Prop) : Prop := (vp_in x1 40 ∧ (vp_in x1 40 ∧ (vp_in x1 40 ∧ (∃ f23, wp_M_agreed_31 Γ  post thr f23 (x1) ((St.I (σ) 24 (x1).toNatClampNeg)) ((St.I (σ) 25 (x1).toNatClampNeg)) ((St.I (σ) 26 (x1).toNatClampNeg)) ((0 : Int32)) ((0 : Int32)) ((1 : Int32)) (σ)))))
abbrev rm_M_agreed : Room := { frames := 0, cells := 0, slots := 0, locals := 0 }
set_option maxRecDepth 100000 in
set_option maxHeartbeats 4000000 in
theorem b_M_agreed_185 {p : Program} {l : Launch} {e : Env} {s : State} {m : MethodId} {args : Array Value} {below : List Frame} {meth : Method} {c : Code} {D : va_G} {AC : Nat → ClassId} {lo : Nat} {Γ : Ev} {post : Int32 → St → Prop} {thr : String → St → Prop} (hX : Cx p s m args meth c y_M_agreed b_M_agreed 11 (some .boolean) [] D AC lo) {k31 : Int32 → Int32 → Int32 → Int32 → Int32 → Int32 → Int32 → St → Prop} (hk31 : ∀ (x1 : Int32) (x2 : Int32) (x3 : Int32) (x4 : Int32) (x5 : Int32) (x6 : Int32) (x7 : Int32) (σ : St), k31 x1 x2 x3 x4 x5 x6 x7 σ → G p l e rm_M_agreed s m args below meth c 11 D lo (pI AC Γ post) (tX AC Γ thr) (wσ AC Γ (σ)) 0 0 31 [(0, .ref (Γ.ad 324)), (1, .int (x1)), (2, .int (x2)), (3, .int (x3)), (4, .int (x4)), (5, .int (x5)), (6, .int (x6)), (7, .int (x7))] []) (x1 : Int32) (x2 : Int32) (x3 : Int32) (x4 : Int32) (x5 : Int32) (x7 : Int32) (s0 : Int32) (σ : St) (h : wp_M_agreed_185 Γ k31 post thr x1 x2 x3 x4 x5 x7 s0 σ) : G p l e rm_M_agreed s m args below meth c 11 D lo (pI AC Γ post) (tX AC Γ thr) (wσ AC Γ (σ)) 0 0 185 [(0, .ref (Γ.ad 324)), (1, .int (x1)), (2, .int (x2)), (3, .int (x3)), (4, .int (x4)), (5, .int (x5)), (7, .int (x7))] [.int (s0)] := by
  unfold wp_M_agreed_185 at h
  refine g_istore hX d_M_agreed_185 (by decide) rfl ?_
  refine g_iinc (v := x7 + 1) hX d_M_agreed_187 7 rfl (congrArg (x7 + ·) (by decide)) (by decide) rfl ?_
  refine g_goto (tgt := 31) hX d_M_agreed_190 (by decide) ?_
  refine g_sub [2, 3, 4, 5, 6, 7, 1, 0] rfl ?_
  exact hk31 (x1) (x2) (x3) (x4) (x5) (s0) ((x7 + 1)) (σ) h
set_option maxRecDepth 100000 in
set_option maxHeartbeats 4000000 in
theorem b_M_agreed_183 {p : Program} {l : Launch} {e : Env} {s : State} {m : MethodId} {args : Array Value} {below : List Frame} {meth : Method} {c : Code} {D : va_G} {AC : Nat → ClassId} {lo : Nat} {Γ : Ev} {post : Int32 → St → Prop} {thr : String → St → Prop} (hX : Cx p s m args meth c y_M_agreed b_M_agreed 11 (some .boolean) [] D AC lo) {k31 : Int32 → Int32 → Int32 → Int32 → Int32 → Int32 → Int32 → St → Prop} (hk31 : ∀ (x1 : Int32) (x2 : Int32) (x3 : Int32) (x4 : Int32) (x5 : Int32) (x6 : Int32) (x7 : Int32) (σ : St), k31 x1 x2 x3 x4 x5 x6 x7 σ → G p l e rm_M_agreed s m args below meth c 11 D lo (pI AC Γ post) (tX AC Γ thr) (wσ AC Γ (σ)) 0 0 31 [(0, .ref (Γ.ad 324)), (1, .int (x1)), (2, .int (x2)), (3, .int (x3)), (4, .int (x4)), (5, .int (x5)), (6, .int (x6)), (7, .int (x7))] []) (x1 : Int32) (x2 : Int32) (x3 : Int32) (x4 : Int32) (x5 : Int32) (x6 : Int32) (x7 : Int32) (σ : St) (h : wp_M_agreed_183 Γ k31 post thr x1 x2 x3 x4 x5 x6 x7 σ) : G p l e rm_M_agreed s m args below meth c 11 D lo (pI AC Γ post) (tX AC Γ thr) (wσ AC Γ (σ)) 0 0 183 [(0, .ref (Γ.ad 324)), (1, .int (x1)), (2, .int (x2)), (3, .int (x3)), (4, .int (x4)), (5, .int (x5)), (6, .int (x6)), (7, .int (x7))] [] := by
  unfold wp_M_agreed_183 at h
  refine g_iload hX d_M_agreed_183 6 rfl ?_
  refine g_sub [0, 1, 2, 3, 4, 5, 7] rfl ?_
  exact b_M_agreed_185 hX hk31 _ _ _ _ _ _ _ _ h
set_option maxRecDepth 100000 in
set_option maxHeartbeats 4000000 in
theorem b_M_agreed_175 {p : Program} {l : Launch} {e : Env} {s : State} {m : MethodId} {args : Array Value} {below : List Frame} {meth : Method} {c : Code} {D : va_G} {AC : Nat → ClassId} {lo : Nat} {Γ : Ev} {post : Int32 → St → Prop} {thr : String → St → Prop} (hX : Cx p s m args meth c y_M_agreed b_M_agreed 11 (some .boolean) [] D AC lo) {k31 : Int32 → Int32 → Int32 → Int32 → Int32 → Int32 → Int32 → St → Prop} (hk31 : ∀ (x1 : Int32) (x2 : Int32) (x3 : Int32) (x4 : Int32) (x5 : Int32) (x6 : Int32) (x7 : Int32) (σ : St), k31 x1 x2 x3 x4 x5 x6 x7 σ → G p l e rm_M_agreed s m args below meth c 11 D lo (pI AC Γ post) (tX AC Γ thr) (wσ AC Γ (σ)) 0 0 31 [(0, .ref (Γ.ad 324)), (1, .int (x1)), (2, .int (x2)), (3, .int (x3)), (4, .int (x4)), (5, .int (x5)), (6, .int (x6)), (7, .int (x7))] []) (x1 : Int32) (x2 : Int32) (x3 : Int32) (x4 : Int32) (x5 : Int32) (x6 : Int32) (x7 : Int32) (x8 : Int32) (σ : St) (h : wp_M_agreed_175 Γ k31 post thr x1 x2 x3 x4 x5 x6 x7 x8 σ) : G p l e rm_M_agreed s m args below meth c 11 D lo (pI AC Γ post) (tX AC Γ thr) (wσ AC Γ (σ)) 0 0 175 [(0, .ref (Γ.ad 324)), (1, .int (x1)), (2, .int (x2)), (3, .int (x3)), (4, .int (x4)), (5, .int (x5)), (6, .int (x6)), (7, .int (x7)), (8, .int (x8))] [] := by
  unfold wp_M_agreed_175 at h
  refine g_iload hX d_M_agreed_175 6 rfl ?_
  refine g_iload hX d_M_agreed_177 8 rfl ?_
  refine g_ior hX d_M_agreed_179 ?_
  refine g_goto (tgt := 185) hX d_M_agreed_180 (by decide) ?_
  refine g_sub [0, 1, 2, 3, 4, 5, 7] rfl ?_
  exact b_M_agreed_185 hX hk31 _ _ _ _ _ _ _ _ h
set_option maxRecDepth 100000 in
set_option maxHeartbeats 4000000 in
theorem b_M_agreed_164 {p : Program} {l : Launch} {e : Env} {s : State} {m : MethodId} {args : Array Value} {below : List Frame} {meth : Method} {c : Code} {D : va_G} {AC : Nat → ClassId} {lo : Nat} {Γ : Ev} {post : Int32 → St → Prop} {thr : String → St → Prop} (hX : Cx p s m args meth c y_M_agreed b_M_agreed 11 (some .boolean) [] D AC lo) {k31 : Int32 → Int32 → Int32 → Int32 → Int32 → Int32 → Int32 → St → Prop} (hk31 : ∀ (x1 : Int32) (x2 : Int32) (x3 : Int32) (x4 : Int32) (x5 : Int32) (x6 : Int32) (x7 : Int32) (σ : St), k31 x1 x2 x3 x4 x5 x6 x7 σ → G p l e rm_M_agreed s m args below meth c 11 D lo (pI AC Γ post) (tX AC Γ thr) (wσ AC Γ (σ)) 0 0 31 [(0, .ref (Γ.ad 324)), (1, .int (x1)), (2, .int (x2)), (3, .int (x3)), (4, .int (x4)), (5, .int (x5)), (6, .int (x6)), (7, .int (x7))] []) (x1 : Int32) (x2 : Int32) (x3 : Int32) (x4 : Int32) (x5 : Int32) (x6 : Int32) (x7 : Int32) (x8 : Int32) (x10 : Int32) (σ : St) (h : wp_M_agreed_164 Γ k31 post thr x1 x2 x3 x4 x5 x6 x7 x8 x10 σ) : G p l e rm_M_agreed s m args below meth c 11 D lo (pI AC Γ post) (tX AC Γ thr) (wσ AC Γ (σ)) 0 0 164 [(0, .ref (Γ.ad 324)), (1, .int (x1)), (2, .int (x2)), (3, .int (x3)), (4, .int (x4)), (5, .int (x5)), (6, .int (x6)), (7, .int (x7)), (8, .int (x8)), (10, .int (x10))] [] := by
  unfold wp_M_agreed_164 at h
  refine g_iload hX d_M_agreed_164 9 rfl ?_
  refine g_if_eq (tgt := 183) hX d_M_agreed_166 (by decide) (fun q15 => ?_) (fun q15 => ?_)
  · have h := h.1 q15
    refine g_sub [0, 1, 2, 3, 4, 5, 6, 7] rfl ?_
    exact b_M_agreed_183 hX hk31 _ _ _ _ _ _ _ _ h
  · have h := h.2 q15
    refine g_iload hX d_M_agreed_169 4 rfl ?_
    refine g_iload_n hX d_M_agreed_171 rfl 3 rfl ?_
    refine g_icmp_le (tgt := 183) hX d_M_agreed_172 (by decide) (fun q16 => ?_) (fun q16 => ?_)
    · have h := h.1 q16
      refine g_sub [0, 1, 2, 3, 4, 5, 6, 7] rfl ?_
      exact b_M_agreed_183 hX hk31 _ _ _ _ _ _ _ _ h
    · have h := h.2 q16
      refine g_sub [0, 1, 2, 3, 4, 5, 6, 7, 8] rfl ?_
      exact b_M_agreed_175 hX hk31 _ _ _ _ _ _ _ _ _ h
set_option maxRecDepth 100000 in
set_option maxHeartbeats 4000000 in
theorem b_M_agreed_151 {p : Program} {l : Launch} {e : Env} {s : State} {m : MethodId} {args : Array Value} {below : List Frame} {meth : Method} {c : Code} {D : va_G} {AC : Nat → ClassId} {lo : Nat} {Γ : Ev} {post : Int32 → St → Prop} {thr : String → St → Prop} (hX : Cx p s m args meth c y_M_agreed b_M_agreed 11 (some .boolean) [] D AC lo) {k31 : Int32 → Int32 → Int32 → Int32 → Int32 → Int32 → Int32 → St → Prop} (hk31 : ∀ (x1 : Int32) (x2 : Int32) (x3 : Int32) (x4 : Int32) (x5 : Int32) (x6 : Int32) (x7 : Int32) (σ : St), k31 x1 x2 x3 x4 x5 x6 x7 σ → G p l e rm_M_agreed s m args below meth c 11 D lo (pI AC Γ post) (tX AC Γ thr) (wσ AC Γ (σ)) 0 0 31 [(0, .ref (Γ.ad 324)), (1, .int (x1)), (2, .int (x2)), (3, .int (x3)), (4, .int (x4)), (5, .int (x5)), (6, .int (x6)), (7, .int (x7))] []) (x1 : Int32) (x2 : Int32) (x3 : Int32) (x4 : Int32) (x6 : Int32) (x7 : Int32) (x8 : Int32) (x9 : Int32) (x10 : Int32) (s0 : Int32) (σ : St) (h : wp_M_agreed_151 Γ k31 post thr x1 x2 x3 x4 x6 x7 x8 x9 x10 s0 σ) : G p l e rm_M_agreed s m args below meth c 11 D lo (pI AC Γ post) (tX AC Γ thr) (wσ AC Γ (σ)) 0 0 151 [(0, .ref (Γ.ad 324)), (1, .int (x1)), (2, .int (x2)), (3, .int (x3)), (4, .int (x4)), (6, .int (x6)), (7, .int (x7)), (8, .int (x8)), (9, .int (x9)), (10, .int (x10))] [.int (s0)] := by
  unfold wp_M_agreed_151 at h
  refine g_istore hX d_M_agreed_151 (by decide) rfl ?_
  refine g_iload hX d_M_agreed_153 9 rfl ?_
  refine g_if_eq (tgt := 164) hX d_M_agreed_155 (by decide) (fun q14 => ?_) (fun q14 => ?_)
  · have h := h.1 q14
    refine g_sub [1, 2, 3, 4, 5, 0, 6, 7, 8, 10] rfl ?_
    exact b_M_agreed_164 hX hk31 _ _ _ _ _ _ _ _ _ _ h
  · have h := h.2 q14
    refine g_iload hX d_M_agreed_158 5 rfl ?_
    refine g_iload_n hX d_M_agreed_160 rfl 4 rfl ?_
    refine g_icmp_lt (tgt := 175) hX d_M_agreed_161 (by decide) (fun q17 => ?_) (fun q17 => ?_)
    · have h := h.1 q17
      refine g_sub [1, 2, 3, 4, 5, 0, 6, 7, 8] rfl ?_
      exact b_M_agreed_175 hX hk31 _ _ _ _ _ _ _ _ _ h
    · have h := h.2 q17
      refine g_sub [1, 2, 3, 4, 5, 0, 6, 7, 8, 10] rfl ?_
      exact b_M_agreed_164 hX hk31 _ _ _ _ _ _ _ _ _ _ h
set_option maxRecDepth 100000 in
set_option maxHeartbeats 4000000 in
theorem b_M_agreed_149 {p : Program} {l : Launch} {e : Env} {s : State} {m : MethodId} {args : Array Value} {below : List Frame} {meth : Method} {c : Code} {D : va_G} {AC : Nat → ClassId} {lo : Nat} {Γ : Ev} {post : Int32 → St → Prop} {thr : String → St → Prop} (hX : Cx p s m args meth c y_M_agreed b_M_agreed 11 (some .boolean) [] D AC lo) {k31 : Int32 → Int32 → Int32 → Int32 → Int32 → Int32 → Int32 → St → Prop} (hk31 : ∀ (x1 : Int32) (x2 : Int32) (x3 : Int32) (x4 : Int32) (x5 : Int32) (x6 : Int32) (x7 : Int32) (σ : St), k31 x1 x2 x3 x4 x5 x6 x7 σ → G p l e rm_M_agreed s m args below meth c 11 D lo (pI AC Γ post) (tX AC Γ thr) (wσ AC Γ (σ)) 0 0 31 [(0, .ref (Γ.ad 324)), (1, .int (x1)), (2, .int (x2)), (3, .int (x3)), (4, .int (x4)), (5, .int (x5)), (6, .int (x6)), (7, .int (x7))] []) (x1 : Int32) (x2 : Int32) (x3 : Int32) (x4 : Int32) (x5 : Int32) (x6 : Int32) (x7 : Int32) (x8 : Int32) (x9 : Int32) (x10 : Int32) (σ : St) (h : wp_M_agreed_149 Γ k31 post thr x1 x2 x3 x4 x5 x6 x7 x8 x9 x10 σ) : G p l e rm_M_agreed s m args below meth c 11 D lo (pI AC Γ post) (tX AC Γ thr) (wσ AC Γ (σ)) 0 0 149 [(0, .ref (Γ.ad 324)), (1, .int (x1)), (2, .int (x2)), (3, .int (x3)), (4, .int (x4)), (5, .int (x5)), (6, .int (x6)), (7, .int (x7)), (8, .int (x8)), (9, .int (x9)), (10, .int (x10))] [] := by
  unfold wp_M_agreed_149 at h
  refine g_iload hX d_M_agreed_149 5 rfl ?_
  refine g_sub [0, 1, 2, 3, 4, 6, 7, 8, 9, 10] rfl ?_
  exact b_M_agreed_151 hX hk31 _ _ _ _ _ _ _ _ _ _ _ h
set_option maxRecDepth 100000 in
set_option maxHeartbeats 4000000 in
theorem b_M_agreed_141 {p : Program} {l : Launch} {e : Env} {s : State} {m : MethodId} {args : Array Value} {below : List Frame} {meth : Method} {c : Code} {D : va_G} {AC : Nat → ClassId} {lo : Nat} {Γ : Ev} {post : Int32 → St → Prop} {thr : String → St → Prop} (hX : Cx p s m args meth c y_M_agreed b_M_agreed 11 (some .boolean) [] D AC lo) {k31 : Int32 → Int32 → Int32 → Int32 → Int32 → Int32 → Int32 → St → Prop} (hk31 : ∀ (x1 : Int32) (x2 : Int32) (x3 : Int32) (x4 : Int32) (x5 : Int32) (x6 : Int32) (x7 : Int32) (σ : St), k31 x1 x2 x3 x4 x5 x6 x7 σ → G p l e rm_M_agreed s m args below meth c 11 D lo (pI AC Γ post) (tX AC Γ thr) (wσ AC Γ (σ)) 0 0 31 [(0, .ref (Γ.ad 324)), (1, .int (x1)), (2, .int (x2)), (3, .int (x3)), (4, .int (x4)), (5, .int (x5)), (6, .int (x6)), (7, .int (x7))] []) (x1 : Int32) (x2 : Int32) (x3 : Int32) (x4 : Int32) (x5 : Int32) (x6 : Int32) (x7 : Int32) (x8 : Int32) (x9 : Int32) (x10 : Int32) (σ : St) (h : wp_M_agreed_141 Γ k31 post thr x1 x2 x3 x4 x5 x6 x7 x8 x9 x10 σ) : G p l e rm_M_agreed s m args below meth c 11 D lo (pI AC Γ post) (tX AC Γ thr) (wσ AC Γ (σ)) 0 0 141 [(0, .ref (Γ.ad 324)), (1, .int (x1)), (2, .int (x2)), (3, .int (x3)), (4, .int (x4)), (5, .int (x5)), (6, .int (x6)), (7, .int (x7)), (8, .int (x8)), (9, .int (x9)), (10, .int (x10))] [] := by
  unfold wp_M_agreed_141 at h
  refine g_iload hX d_M_agreed_141 5 rfl ?_
  refine g_iload hX d_M_agreed_143 8 rfl ?_
  refine g_ior hX d_M_agreed_145 ?_
  refine g_goto (tgt := 151) hX d_M_agreed_146 (by decide) ?_
  refine g_sub [0, 1, 2, 3, 4, 6, 7, 8, 9, 10] rfl ?_
  exact b_M_agreed_151 hX hk31 _ _ _ _ _ _ _ _ _ _ _ h
set_option maxRecDepth 100000 in
set_option maxHeartbeats 4000000 in
theorem b_M_agreed_130 {p : Program} {l : Launch} {e : Env} {s : State} {m : MethodId} {args : Array Value} {below : List Frame} {meth : Method} {c : Code} {D : va_G} {AC : Nat → ClassId} {lo : Nat} {Γ : Ev} {post : Int32 → St → Prop} {thr : String → St → Prop} (hX : Cx p s m args meth c y_M_agreed b_M_agreed 11 (some .boolean) [] D AC lo) {k31 : Int32 → Int32 → Int32 → Int32 → Int32 → Int32 → Int32 → St → Prop} (hk31 : ∀ (x1 : Int32) (x2 : Int32) (x3 : Int32) (x4 : Int32) (x5 : Int32) (x6 : Int32) (x7 : Int32) (σ : St), k31 x1 x2 x3 x4 x5 x6 x7 σ → G p l e rm_M_agreed s m args below meth c 11 D lo (pI AC Γ post) (tX AC Γ thr) (wσ AC Γ (σ)) 0 0 31 [(0, .ref (Γ.ad 324)), (1, .int (x1)), (2, .int (x2)), (3, .int (x3)), (4, .int (x4)), (5, .int (x5)), (6, .int (x6)), (7, .int (x7))] []) (x1 : Int32) (x2 : Int32) (x3 : Int32) (x4 : Int32) (x5 : Int32) (x6 : Int32) (x7 : Int32) (x8 : Int32) (x9 : Int32) (x10 : Int32) (σ : St) (h : wp_M_agreed_130 Γ k31 post thr x1 x2 x3 x4 x5 x6 x7 x8 x9 x10 σ) : G p l e rm_M_agreed s m args below meth c 11 D lo (pI AC Γ post) (tX AC Γ thr) (wσ AC Γ (σ)) 0 0 130 [(0, .ref (Γ.ad 324)), (1, .int (x1)), (2, .int (x2)), (3, .int (x3)), (4, .int (x4)), (5, .int (x5)), (6, .int (x6)), (7, .int (x7)), (8, .int (x8)), (9, .int (x9)), (10, .int (x10))] [] := by
  unfold wp_M_agreed_130 at h
  refine g_iload hX d_M_agreed_130 10 rfl ?_
  refine g_if_eq (tgt := 149) hX d_M_agreed_132 (by decide) (fun q13 => ?_) (fun q13 => ?_)
  · have h := h.1 q13
    refine g_sub [0, 1, 2, 3, 4, 5, 6, 7, 8, 9, 10] rfl ?_
    exact b_M_agreed_149 hX hk31 _ _ _ _ _ _ _ _ _ _ _ h
  · have h := h.2 q13
    refine g_iload hX d_M_agreed_135 4 rfl ?_
    refine g_iload_n hX d_M_agreed_137 rfl 3 rfl ?_
    refine g_icmp_ge (tgt := 149) hX d_M_agreed_138 (by decide) (fun q18 => ?_) (fun q18 => ?_)
    · have h := h.1 q18
      refine g_sub [0, 1, 2, 3, 4, 5, 6, 7, 8, 9, 10] rfl ?_
      exact b_M_agreed_149 hX hk31 _ _ _ _ _ _ _ _ _ _ _ h
    · have h := h.2 q18
      refine g_sub [0, 1, 2, 3, 4, 5, 6, 7, 8, 9, 10] rfl ?_
      exact b_M_agreed_141 hX hk31 _ _ _ _ _ _ _ _ _ _ _ h
set_option maxRecDepth 100000 in
set_option maxHeartbeats 4000000 in
theorem b_M_agreed_117 {p : Program} {l : Launch} {e : Env} {s : State} {m : MethodId} {args : Array Value} {below : List Frame} {meth : Method} {c : Code} {D : va_G} {AC : Nat → ClassId} {lo : Nat} {Γ : Ev} {post : Int32 → St → Prop} {thr : String → St → Prop} (hX : Cx p s m args meth c y_M_agreed b_M_agreed 11 (some .boolean) [] D AC lo) {k31 : Int32 → Int32 → Int32 → Int32 → Int32 → Int32 → Int32 → St → Prop} (hk31 : ∀ (x1 : Int32) (x2 : Int32) (x3 : Int32) (x4 : Int32) (x5 : Int32) (x6 : Int32) (x7 : Int32) (σ : St), k31 x1 x2 x3 x4 x5 x6 x7 σ → G p l e rm_M_agreed s m args below meth c 11 D lo (pI AC Γ post) (tX AC Γ thr) (wσ AC Γ (σ)) 0 0 31 [(0, .ref (Γ.ad 324)), (1, .int (x1)), (2, .int (x2)), (3, .int (x3)), (4, .int (x4)), (5, .int (x5)), (6, .int (x6)), (7, .int (x7))] []) (x1 : Int32) (x2 : Int32) (x3 : Int32) (x4 : Int32) (x5 : Int32) (x6 : Int32) (x7 : Int32) (x8 : Int32) (x9 : Int32) (s0 : Int32) (σ : St) (h : wp_M_agreed_117 Γ k31 post thr x1 x2 x3 x4 x5 x6 x7 x8 x9 s0 σ) : G p l e rm_M_agreed s m args below meth c 11 D lo (pI AC Γ post) (tX AC Γ thr) (wσ AC Γ (σ)) 0 0 117 [(0, .ref (Γ.ad 324)), (1, .int (x1)), (2, .int (x2)), (3, .int (x3)), (4, .int (x4)), (5, .int (x5)), (6, .int (x6)), (7, .int (x7)), (8, .int (x8)), (9, .int (x9))] [.int (s0)] := by
  unfold wp_M_agreed_117 at h
  refine g_istore hX d_M_agreed_117 (by decide) rfl ?_
  refine g_iload hX d_M_agreed_119 10 rfl ?_
  refine g_if_eq (tgt := 130) hX d_M_agreed_121 (by decide) (fun q12 => ?_) (fun q12 => ?_)
  · have h := h.1 q12
    refine g_sub [1, 2, 3, 4, 5, 6, 7, 8, 9, 10, 0] rfl ?_
    exact b_M_agreed_130 hX hk31 _ _ _ _ _ _ _ _ _ _ _ h
  · have h := h.2 q12
    refine g_iload hX d_M_agreed_124 5 rfl ?_
    refine g_iload_n hX d_M_agreed_126 rfl 4 rfl ?_
    refine g_icmp_gt (tgt := 141) hX d_M_agreed_127 (by decide) (fun q19 => ?_) (fun q19 => ?_)
    · have h := h.1 q19
      refine g_sub [1, 2, 3, 4, 5, 6, 7, 8, 9, 10, 0] rfl ?_
      exact b_M_agreed_141 hX hk31 _ _ _ _ _ _ _ _ _ _ _ h
    · have h := h.2 q19
      refine g_sub [1, 2, 3, 4, 5, 6, 7, 8, 9, 10, 0] rfl ?_
      exact b_M_agreed_130 hX hk31 _ _ _ _ _ _ _ _ _ _ _ h
set_option maxRecDepth 100000 in
set_option maxHeartbeats 4000000 in
theorem b_M_agreed_116 {p : Program} {l : Launch} {e : Env} {s : State} {m : MethodId} {args : Array Value} {below : List Frame} {meth : Method} {c : Code} {D : va_G} {AC : Nat → ClassId} {lo : Nat} {Γ : Ev} {post : Int32 → St → Prop} {thr : String → St → Prop} (hX : Cx p s m args meth c y_M_agreed b_M_agreed 11 (some .boolean) [] D AC lo) {k31 : Int32 → Int32 → Int32 → Int32 → Int32 → Int32 → Int32 → St → Prop} (hk31 : ∀ (x1 : Int32) (x2 : Int32) (x3 : Int32) (x4 : Int32) (x5 : Int32) (x6 : Int32) (x7 : Int32) (σ : St), k31 x1 x2 x3 x4 x5 x6 x7 σ → G p l e rm_M_agreed s m args below meth c 11 D lo (pI AC Γ post) (tX AC Γ thr) (wσ AC Γ (σ)) 0 0 31 [(0, .ref (Γ.ad 324)), (1, .int (x1)), (2, .int (x2)), (3, .int (x3)), (4, .int (x4)), (5, .int (x5)), (6, .int (x6)), (7, .int (x7))] []) (x1 : Int32) (x2 : Int32) (x3 : Int32) (x4 : Int32) (x5 : Int32) (x6 : Int32) (x7 : Int32) (x8 : Int32) (x9 : Int32) (σ : St) (h : wp_M_agreed_116 Γ k31 post thr x1 x2 x3 x4 x5 x6 x7 x8 x9 σ) : G p l e rm_M_agreed s m args below meth c 11 D lo (pI AC Γ post) (tX AC Γ thr) (wσ AC Γ (σ)) 0 0 116 [(0, .ref (Γ.ad 324)), (1, .int (x1)), (2, .int (x2)), (3, .int (x3)), (4, .int (x4)), (5, .int (x5)), (6, .int (x6)), (7, .int (x7)), (8, .int (x8)), (9, .int (x9))] [] := by
  unfold wp_M_agreed_116 at h
  refine g_iconst (v := 0) hX d_M_agreed_116 (by decide) ?_
  refine g_sub [0, 1, 2, 3, 4, 5, 6, 7, 8, 9] rfl ?_
  exact b_M_agreed_117 hX hk31 _ _ _ _ _ _ _ _ _ _ _ h
set_option maxRecDepth 100000 in
set_option maxHeartbeats 4000000 in
theorem b_M_agreed_95 {p : Program} {l : Launch} {e : Env} {s : State} {m : MethodId} {args : Array Value} {below : List Frame} {meth : Method} {c : Code} {D : va_G} {AC : Nat → ClassId} {lo : Nat} {Γ : Ev} {post : Int32 → St → Prop} {thr : String → St → Prop} (hX : Cx p s m args meth c y_M_agreed b_M_agreed 11 (some .boolean) [] D AC lo) {k31 : Int32 → Int32 → Int32 → Int32 → Int32 → Int32 → Int32 → St → Prop} (hk31 : ∀ (x1 : Int32) (x2 : Int32) (x3 : Int32) (x4 : Int32) (x5 : Int32) (x6 : Int32) (x7 : Int32) (σ : St), k31 x1 x2 x3 x4 x5 x6 x7 σ → G p l e rm_M_agreed s m args below meth c 11 D lo (pI AC Γ post) (tX AC Γ thr) (wσ AC Γ (σ)) 0 0 31 [(0, .ref (Γ.ad 324)), (1, .int (x1)), (2, .int (x2)), (3, .int (x3)), (4, .int (x4)), (5, .int (x5)), (6, .int (x6)), (7, .int (x7))] []) (x1 : Int32) (x2 : Int32) (x3 : Int32) (x4 : Int32) (x5 : Int32) (x6 : Int32) (x7 : Int32) (x8 : Int32) (x9 : Int32) (σ : St) (h : wp_M_agreed_95 Γ k31 post thr x1 x2 x3 x4 x5 x6 x7 x8 x9 σ) : G p l e rm_M_agreed s m args below meth c 11 D lo (pI AC Γ post) (tX AC Γ thr) (wσ AC Γ (σ)) 0 0 95 [(0, .ref (Γ.ad 324)), (1, .int (x1)), (2, .int (x2)), (3, .int (x3)), (4, .int (x4)), (5, .int (x5)), (6, .int (x6)), (7, .int (x7)), (8, .int (x8)), (9, .int (x9))] [] := by
  unfold wp_M_agreed_95 at h
  refine g_iconst (v := 0) hX d_M_agreed_95 (by decide) ?_
  refine g_goto (tgt := 117) hX d_M_agreed_96 (by decide) ?_
  refine g_sub [0, 1, 2, 3, 4, 5, 6, 7, 8, 9] rfl ?_
  exact b_M_agreed_117 hX hk31 _ _ _ _ _ _ _ _ _ _ _ h
set_option maxRecDepth 100000 in
set_option maxHeartbeats 4000000 in
theorem b_M_agreed_70 {p : Program} {l : Launch} {e : Env} {s : State} {m : MethodId} {args : Array Value} {below : List Frame} {meth : Method} {c : Code} {D : va_G} {AC : Nat → ClassId} {lo : Nat} {Γ : Ev} {post : Int32 → St → Prop} {thr : String → St → Prop} (hX : Cx p s m args meth c y_M_agreed b_M_agreed 11 (some .boolean) [] D AC lo) {k31 : Int32 → Int32 → Int32 → Int32 → Int32 → Int32 → Int32 → St → Prop} (hk31 : ∀ (x1 : Int32) (x2 : Int32) (x3 : Int32) (x4 : Int32) (x5 : Int32) (x6 : Int32) (x7 : Int32) (σ : St), k31 x1 x2 x3 x4 x5 x6 x7 σ → G p l e rm_M_agreed s m args below meth c 11 D lo (pI AC Γ post) (tX AC Γ thr) (wσ AC Γ (σ)) 0 0 31 [(0, .ref (Γ.ad 324)), (1, .int (x1)), (2, .int (x2)), (3, .int (x3)), (4, .int (x4)), (5, .int (x5)), (6, .int (x6)), (7, .int (x7))] []) (x1 : Int32) (x2 : Int32) (x3 : Int32) (x4 : Int32) (x5 : Int32) (x6 : Int32) (x7 : Int32) (x8 : Int32) (s0 : Int32) (σ : St) (h : wp_M_agreed_70 Γ k31 post thr x1 x2 x3 x4 x5 x6 x7 x8 s0 σ) : G p l e rm_M_agreed s m args below meth c 11 D lo (pI AC Γ post) (tX AC Γ thr) (wσ AC Γ (σ)) 0 0 70 [(0, .ref (Γ.ad 324)), (1, .int (x1)), (2, .int (x2)), (3, .int (x3)), (4, .int (x4)), (5, .int (x5)), (6, .int (x6)), (7, .int (x7)), (8, .int (x8))] [.int (s0)] := by
  unfold wp_M_agreed_70 at h
  refine g_istore hX d_M_agreed_70 (by decide) rfl ?_
  refine g_iload_n hX d_M_agreed_72 rfl 4 rfl ?_
  refine g_iload hX d_M_agreed_73 5 rfl ?_
  refine g_icmp_ge (tgt := 99) hX d_M_agreed_75 (by decide) (fun q10 => ?_) (fun q10 => ?_)
  · have h := h.1 q10
    refine g_iload hX d_M_agreed_99 8 rfl ?_
    refine g_iload hX d_M_agreed_101 5 rfl ?_
    refine g_icmp_lt (tgt := 116) hX d_M_agreed_103 (by decide) (fun q11 => ?_) (fun q11 => ?_)
    · have h := h.1 q11
      refine g_sub [1, 2, 3, 4, 5, 6, 7, 8, 9, 0] rfl ?_
      exact b_M_agreed_116 hX hk31 _ _ _ _ _ _ _ _ _ _ h
    · have h := h.2 q11
      refine g_iload hX d_M_agreed_106 8 rfl ?_
      refine g_iload_n hX d_M_agreed_108 rfl 4 rfl ?_
      refine g_icmp_ge (tgt := 116) hX d_M_agreed_109 (by decide) (fun q20 => ?_) (fun q20 => ?_)
      · have h := h.1 q20
        refine g_sub [1, 2, 3, 4, 5, 6, 7, 8, 9, 0] rfl ?_
        exact b_M_agreed_116 hX hk31 _ _ _ _ _ _ _ _ _ _ h
      · have h := h.2 q20
        refine g_iconst (v := 1) hX d_M_agreed_112 (by decide) ?_
        refine g_goto (tgt := 117) hX d_M_agreed_113 (by decide) ?_
        refine g_sub [1, 2, 3, 4, 5, 6, 7, 8, 9, 0] rfl ?_
        exact b_M_agreed_117 hX hk31 _ _ _ _ _ _ _ _ _ _ _ h
  · have h := h.2 q10
    refine g_iload hX d_M_agreed_78 8 rfl ?_
    refine g_iload_n hX d_M_agreed_80 rfl 4 rfl ?_
    refine g_icmp_le (tgt := 95) hX d_M_agreed_81 (by decide) (fun q21 => ?_) (fun q21 => ?_)
    · have h := h.1 q21
      refine g_sub [1, 2, 3, 4, 5, 6, 7, 8, 9, 0] rfl ?_
      exact b_M_agreed_95 hX hk31 _ _ _ _ _ _ _ _ _ _ h
    · have h := h.2 q21
      refine g_iload hX d_M_agreed_84 8 rfl ?_
      refine g_iload hX d_M_agreed_86 5 rfl ?_
      refine g_icmp_gt (tgt := 95) hX d_M_agreed_88 (by decide) (fun q22 => ?_) (fun q22 => ?_)
      · have h := h.1 q22
        refine g_sub [1, 2, 3, 4, 5, 6, 7, 8, 9, 0] rfl ?_
        exact b_M_agreed_95 hX hk31 _ _ _ _ _ _ _ _ _ _ h
      · have h := h.2 q22
        refine g_iconst (v := 1) hX d_M_agreed_91 (by decide) ?_
        refine g_goto (tgt := 117) hX d_M_agreed_92 (by decide) ?_
        refine g_sub [1, 2, 3, 4, 5, 6, 7, 8, 9, 0] rfl ?_
        exact b_M_agreed_117 hX hk31 _ _ _ _ _ _ _ _ _ _ _ h
set_option maxRecDepth 100000 in
set_option maxHeartbeats 4000000 in
theorem b_M_agreed_31 {p : Program} {l : Launch} {e : Env} {s : State} {m : MethodId} {args : Array Value} {below : List Frame} {meth : Method} {c : Code} {D : va_G} {AC : Nat → ClassId} {lo : Nat} {Γ : Ev} {post : Int32 → St → Prop} {thr : String → St → Prop} (hX : Cx p s m args meth c y_M_agreed b_M_agreed 11 (some .boolean) [] D AC lo)   : ∀ (fuel : Nat) (x1 : Int32) (x2 : Int32) (x3 : Int32) (x4 : Int32) (x5 : Int32) (x6 : Int32) (x7 : Int32) (σ : St), wp_M_agreed_31 Γ  post thr fuel x1 x2 x3 x4 x5 x6 x7 σ → G p l e rm_M_agreed s m args below meth c 11 D lo (pI AC Γ post) (tX AC Γ thr) (wσ AC Γ (σ)) 0 0 31 [(0, .ref (Γ.ad 324)), (1, .int (x1)), (2, .int (x2)), (3, .int (x3)), (4, .int (x4)), (5, .int (x5)), (6, .int (x6)), (7, .int (x7))] [] := by
  intro fuel
  induction fuel with
  | zero => intro x1 x2 x3 x4 x5 x6 x7 σ h; exact False.elim h
  | succ fuel ih =>
    intro x1 x2 x3 x4 x5 x6 x7 σ h
    simp only [wp_M_agreed_31] at h
    refine g_iload hX d_M_agreed_31 7 rfl ?_
    refine g_aload_n hX d_M_agreed_33 rfl 0 rfl ?_
    refine g_getf (i := 324) (kf := 15) hX (lt_c (by decide)) rfl (lay_MO (AC := AC) (Γ := Γ)) rfl in_M (by decide) t_820 (Or.inl rfl) rfl d_M_agreed_34 ?_
    refine g_iload_n hX d_M_agreed_37 rfl 2 rfl ?_
    obtain ⟨q4, h⟩ := h
    refine g_iald (i := 337) hX (lt_c (by decide)) rfl (lay_m12 (AC := AC) (Γ := Γ)) q4 d_M_agreed_38 ?_
    refine g_icmp_gt (tgt := 193) hX d_M_agreed_39 (by decide) (fun q5 => ?_) (fun q5 => ?_)
    · have h := h.1 q5
      refine g_iload hX d_M_agreed_193 5 rfl ?_
      refine g_iload hX d_M_agreed_195 6 rfl ?_
      refine g_iconst (v := -1) hX d_M_agreed_197 (by decide) ?_
      refine g_ixor hX d_M_agreed_198 ?_
      refine g_iand hX d_M_agreed_199 ?_
      refine g_aload_n hX d_M_agreed_200 rfl 0 rfl ?_
      refine g_getf (i := 324) (kf := 9) hX (lt_c (by decide)) rfl (lay_MO (AC := AC) (Γ := Γ)) rfl in_M (by decide) t_814 (Or.inl rfl) rfl d_M_agreed_201 ?_
      refine g_iload_n hX d_M_agreed_204 rfl 1 rfl ?_
      obtain ⟨q6, h⟩ := h
      refine g_iald (i := 331) hX (lt_c (by decide)) rfl (lay_m6 (AC := AC) (Γ := Γ)) q6 d_M_agreed_205 ?_
      refine g_iconst (v := -1) hX d_M_agreed_206 (by decide) ?_
      refine g_ixor hX d_M_agreed_207 ?_
      refine g_iand hX d_M_agreed_208 ?_
      refine g_if_ne (tgt := 216) hX d_M_agreed_209 (by decide) (fun q7 => ?_) (fun q7 => ?_)
      · have h := h.1 q7
        refine g_iconst (v := 0) hX d_M_agreed_216 (by decide) ?_
        exact g_zret hX rfl d_M_agreed_217 (by decide) ⟨_, _, rfl, rfl, h⟩
      · have h := h.2 q7
        refine g_iconst (v := 1) hX d_M_agreed_212 (by decide) ?_
        refine g_goto (tgt := 217) hX d_M_agreed_213 (by decide) ?_
        exact g_zret hX rfl d_M_agreed_217 (by decide) ⟨_, _, rfl, rfl, h⟩
    · have h := h.2 q5
      refine g_iconst (v := 1) hX d_M_agreed_42 (by decide) ?_
      refine g_aload_n hX d_M_agreed_43 rfl 0 rfl ?_
      refine g_getf (i := 324) (kf := 16) hX (lt_c (by decide)) rfl (lay_MO (AC := AC) (Γ := Γ)) rfl in_M (by decide) t_821 (Or.inl rfl) rfl d_M_agreed_44 ?_
      refine g_iconst (v := 4) hX d_M_agreed_47 (by decide) ?_
      refine g_iload_n hX d_M_agreed_48 rfl 2 rfl ?_
      refine g_imul hX d_M_agreed_49 ?_
      refine g_iload hX d_M_agreed_50 7 rfl ?_
      refine g_iadd hX d_M_agreed_52 ?_
      refine g_iconst (v := 1) hX d_M_agreed_53 (by decide) ?_
      refine g_isub hX d_M_agreed_54 ?_
      obtain ⟨q8, h⟩ := h
      refine g_iald (i := 338) hX (lt_c (by decide)) rfl (lay_m13 (AC := AC) (Γ := Γ)) q8 d_M_agreed_55 ?_
      refine g_ishl hX d_M_agreed_56 ?_
      refine g_istore hX d_M_agreed_57 (by decide) rfl ?_
      refine g_iload hX d_M_agreed_59 8 rfl ?_
      refine g_iload_n hX d_M_agreed_61 rfl 4 rfl ?_
      refine g_icmp_ne (tgt := 69) hX d_M_agreed_62 (by decide) (fun q9 => ?_) (fun q9 => ?_)
      · have h := h.1 q9
        refine g_iconst (v := 0) hX d_M_agreed_69 (by decide) ?_
        refine g_sub [1, 2, 3, 4, 5, 6, 7, 8, 0] rfl ?_
        exact b_M_agreed_70 hX (fun _ _ _ _ _ _ _ _ z => ih _ _ _ _ _ _ _ _ z) _ _ _ _ _ _ _ _ _ _ h
      · have h := h.2 q9
        refine g_iconst (v := 1) hX d_M_agreed_65 (by decide) ?_
        refine g_goto (tgt := 70) hX d_M_agreed_66 (by decide) ?_
        refine g_sub [1, 2, 3, 4, 5, 6, 7, 8, 0] rfl ?_
        exact b_M_agreed_70 hX (fun _ _ _ _ _ _ _ _ z => ih _ _ _ _ _ _ _ _ z) _ _ _ _ _ _ _ _ _ _ h
set_option maxRecDepth 100000 in
set_option maxHeartbeats 4000000 in
theorem c_M_agreed {l : Launch} {D : va_G} {AC : Nat → ClassId} {lo : Nat} {Γ : Ev} {x1 : Int32} {σ : St} {post : Int32 → St → Prop} {thr : String → St → Prop} (h : wp_M_agreed Γ x1 σ post thr) : Ct l y_M_agreed hd_M_agreed rm_M_agreed D AC lo [.ref (Γ.ad 324), .int (x1)] (wσ AC Γ σ) (pI AC Γ post) (tX AC Γ thr) := by
  refine Ct.of (by decide) (Nat.le_of_ble_eq_true rfl) ?_
  intro p e s m args below meth c hadm hX
  unfold wp_M_agreed at h
  show G p l e rm_M_agreed s m args below meth c 11 D lo (pI AC Γ post) (tX AC Γ thr) (wσ AC Γ (σ)) 0 0 0 [(0, .ref (Γ.ad 324)), (1, .int (x1))] []
  refine g_aload_n hX d_M_agreed_0 rfl 0 rfl ?_
  refine g_getf (i := 324) (kf := 6) hX (lt_c (by decide)) rfl (lay_MO (AC := AC) (Γ := Γ)) rfl in_M (by decide) t_811 (Or.inl rfl) rfl d_M_agreed_1 ?_
  refine g_iload_n hX d_M_agreed_4 rfl 1 rfl ?_
  obtain ⟨q1, h⟩ := h
  refine g_iald (i := 328) hX (lt_c (by decide)) rfl (lay_m3 (AC := AC) (Γ := Γ)) q1 d_M_agreed_5 ?_
  refine g_istore_n hX d_M_agreed_6 rfl (by decide) rfl ?_
  refine g_aload_n hX d_M_agreed_7 rfl 1 rfl ?_
  refine g_getf (i := 324) (kf := 7) hX (lt_c (by decide)) rfl (lay_MO (AC := AC) (Γ := Γ)) rfl in_M (by decide) t_812 (Or.inl rfl) rfl d_M_agreed_8 ?_
  refine g_iload_n hX d_M_agreed_11 rfl 2 rfl ?_
  obtain ⟨q2, h⟩ := h
  refine g_iald (i := 329) hX (lt_c (by decide)) rfl (lay_m4 (AC := AC) (Γ := Γ)) q2 d_M_agreed_12 ?_
  refine g_istore_n hX d_M_agreed_13 rfl (by decide) rfl ?_
  refine g_aload_n hX d_M_agreed_14 rfl 2 rfl ?_
  refine g_getf (i := 324) (kf := 8) hX (lt_c (by decide)) rfl (lay_MO (AC := AC) (Γ := Γ)) rfl in_M (by decide) t_813 (Or.inl rfl) rfl d_M_agreed_15 ?_
  refine g_iload_n hX d_M_agreed_18 rfl 3 rfl ?_
  obtain ⟨q3, h⟩ := h
  refine g_iald (i := 330) hX (lt_c (by decide)) rfl (lay_m5 (AC := AC) (Γ := Γ)) q3 d_M_agreed_19 ?_
  refine g_istore hX d_M_agreed_20 (by decide) rfl ?_
  refine g_iconst (v := 0) hX d_M_agreed_22 (by decide) ?_
  refine g_istore hX d_M_agreed_23 (by decide) rfl ?_
  refine g_iconst (v := 0) hX d_M_agreed_25 (by decide) ?_
  refine g_istore hX d_M_agreed_26 (by decide) rfl ?_
  refine g_iconst (v := 1) hX d_M_agreed_28 (by decide) ?_
  refine g_istore hX d_M_agreed_29 (by decide) rfl ?_
  refine g_sub [6, 7, 5, 4, 3, 2, 1, 0] rfl ?_
  obtain ⟨f23, h⟩ := h
  exact b_M_agreed_31 hX  f23 _ _ _ _ _ _ _ _ h

def wp_M_sameShares_94 (Γ : Ev) (k5 : Int32 → Int32 → Int32 → Int32 → St → Prop) (post : Int32 → St → Prop) (thr : String → St → Prop) (x1 : Int32) (x2 : Int32) (x4 : Int32) (s0 : Int32) (σ : St) : Prop := k5 (x1) (x2) (s0) ((x4 + 1)) (σ)
def wp_M_sameShares_93 (Γ : Ev) (k5 : Int32 → Int32 → Int32 → Int32 → St → Prop) (post : Int32 → St → Prop) (thr : String → St → Prop) (x1 : Int32) (x2 : Int32) (x4 : Int32) (σ : St) : Prop := wp_M_sameShares_94 Γ k5 post thr (x1) (x2) (x4) ((0 : Int32)) (σ)
def wp_M_sameShares_89 (Γ : Ev) (k5 : Int32 → Int32 → Int32 → Int32 → St → Prop) (post : Int32 → St → Prop) (thr : String → St → Prop) (x1 : Int32) (x2 : Int32) (x4 : Int32) (σ : St) : Prop := wp_M_sameShares_94 Γ k5 post thr (x1) (x2) (x4) ((1 : Int32)) (σ)
def wp_M_sameShares_5 (Γ : Ev)  (post : Int32 → St → Prop) (thr : String → St → Prop) : Nat → Int32 → Int32 → Int32 → Int32 → St → Prop
  | 0 => fun _ _ _ _ _ => False
  | fuel + 1 => fun x1 x2 x3 x4 σ => (((8 : Int32) ≤ x4 → ((x3 = 0 ∨ x3 = 1) ∧ post x3 (σ))) ∧ (¬ (8 : Int32) ≤ x4 → ((x3 = 0 → wp_M_sameShares_93 Γ (fun x1 x2 x3 x4 σ => wp_M_sameShares_5 Γ  post thr fuel x1 x2 x3 x4 σ) post thr (x1) (x2) (x4) (σ)) ∧ (¬ x3 = 0 → (vp_in (((8 : Int32) * x1) + x4) 640 ∧ (vp_in (((8 : Int32) * x2) + x4) 640 ∧ ((¬ (lg_cmp (St.L (σ) 4 ((((8 : Int32) * x1) + x4)).toNatClampNeg) (St.L (σ) 4 ((((8 : Int32) * x2) + x4)).toNatClampNeg)) = 0 → wp_M_sameShares_93 Γ (fun x1 x2 x3 x4 σ => wp_M_sameShares_5 Γ  post thr fuel x1 x2 x3 x4 σ) post thr (x1) (x2) (x4) (σ)) ∧ ((lg_cmp (St.L (σ) 4 ((((8 : Int32) * x1) + x4)).toNatClampNeg) (St.L (σ) 4 ((((8 : Int32) * x2) + x4)).toNatClampNeg)) = 0 → (vp_in (((8 : Int32) * x1) + x4) 640 ∧ (((lg_cmp (St.L (σ) 4 ((((8 : Int32) * x1) + x4)).toNatClampNeg) (0 : Int64)) = 0 → wp_M_sameShares_89 Γ (fun x1 x2 x3 x4 σ => wp_M_sameShares_5 Γ  post thr fuel x1 x2 x3 x4 σ) post thr (x1) (x2) (x4) (σ)) ∧ (¬ (lg_cmp (St.L (σ) 4 ((((8 : Int32) * x1) + x4)).toNatClampNeg) (0 : Int64)) = 0 → (vp_in (((8 : Int32) * x1) + x4) 640 ∧ (vp_in (((8 : Int32) * x2) + x4) 640 ∧ ((¬ (lg_cmp (St.L (σ) 5 ((((8 : Int32) * x1) + x4)).toNatClampNeg) (St.L (σ) 5 ((((8 : Int32) * x2) + x4)).toNatClampNeg)) = 0 → wp_M_sameShares_93 Γ (fun x1 x2 x3 x4 σ => wp_M_sameShares_5 Γ  post thr fuel x1 x2 x3 x4 σ) post thr (x1) (x2) (x4) (σ)) ∧ ((lg_cmp (St.L (σ) 5 ((((8 : Int32) * x1) + x4)).toNatClampNeg) (St.L (σ) 5 ((((8 : Int32) * x2) + x4)).toNatClampNeg)) = 0 → wp_M_sameShares_89 Γ (fun x1 x2 x3 x4 σ => wp_M_sameShares_5 Γ  post thr fuel x1 x2 x3 x4 σ) post thr (x1) (x2) (x4) (σ))))))))))))))))
def wp_M_sameShares (Γ : Ev) (x1 : Int32) (x2 : Int32) (σ : St) (post : Int32 → St → Prop) (thr : String → St → Prop) : Prop := (∃ f11, wp_M_sameShares_5 Γ  post thr f11 (x1) (x2) ((1 : Int32)) ((0 : Int32)) (σ))
abbrev rm_M_sameShares : Room := { frames := 0, cells := 0, slots := 0, locals := 0 }
set_option maxRecDepth 100000 in
set_option maxHeartbeats 4000000 in
theorem b_M_sameShares_94 {p : Program} {l : Launch} {e : Env} {s : State} {m : MethodId} {args : Array Value} {below : List Frame} {meth : Method} {c : Code} {D : va_G} {AC : Nat → ClassId} {lo : Nat} {Γ : Ev} {post : Int32 → St → Prop} {thr : String → St → Prop} (hX : Cx p s m args meth c y_M_sameShares b_M_sameShares 5 (some .boolean) [] D AC lo) {k5 : Int32 → Int32 → Int32 → Int32 → St → Prop} (hk5 : ∀ (x1 : Int32) (x2 : Int32) (x3 : Int32) (x4 : Int32) (σ : St), k5 x1 x2 x3 x4 σ → G p l e rm_M_sameShares s m args below meth c 5 D lo (pI AC Γ post) (tX AC Γ thr) (wσ AC Γ (σ)) 0 0 5 [(0, .ref (Γ.ad 324)), (1, .int (x1)), (2, .int (x2)), (3, .int (x3)), (4, .int (x4))] []) (x1 : Int32) (x2 : Int32) (x4 : Int32) (s0 : Int32) (σ : St) (h : wp_M_sameShares_94 Γ k5 post thr x1 x2 x4 s0 σ) : G p l e rm_M_sameShares s m args below meth c 5 D lo (pI AC Γ post) (tX AC Γ thr) (wσ AC Γ (σ)) 0 0 94 [(0, .ref (Γ.ad 324)), (1, .int (x1)), (2, .int (x2)), (4, .int (x4))] [.int (s0)] := by
  unfold wp_M_sameShares_94 at h
  refine g_istore_n hX d_M_sameShares_94 rfl (by decide) rfl ?_
  refine g_iinc (v := x4 + 1) hX d_M_sameShares_95 4 rfl (congrArg (x4 + ·) (by decide)) (by decide) rfl ?_
  refine g_goto (tgt := 5) hX d_M_sameShares_98 (by decide) ?_
  refine g_sub [2, 3, 4, 1, 0] rfl ?_
  exact hk5 (x1) (x2) (s0) ((x4 + 1)) (σ) h
set_option maxRecDepth 100000 in
set_option maxHeartbeats 4000000 in
theorem b_M_sameShares_93 {p : Program} {l : Launch} {e : Env} {s : State} {m : MethodId} {args : Array Value} {below : List Frame} {meth : Method} {c : Code} {D : va_G} {AC : Nat → ClassId} {lo : Nat} {Γ : Ev} {post : Int32 → St → Prop} {thr : String → St → Prop} (hX : Cx p s m args meth c y_M_sameShares b_M_sameShares 5 (some .boolean) [] D AC lo) {k5 : Int32 → Int32 → Int32 → Int32 → St → Prop} (hk5 : ∀ (x1 : Int32) (x2 : Int32) (x3 : Int32) (x4 : Int32) (σ : St), k5 x1 x2 x3 x4 σ → G p l e rm_M_sameShares s m args below meth c 5 D lo (pI AC Γ post) (tX AC Γ thr) (wσ AC Γ (σ)) 0 0 5 [(0, .ref (Γ.ad 324)), (1, .int (x1)), (2, .int (x2)), (3, .int (x3)), (4, .int (x4))] []) (x1 : Int32) (x2 : Int32) (x4 : Int32) (σ : St) (h : wp_M_sameShares_93 Γ k5 post thr x1 x2 x4 σ) : G p l e rm_M_sameShares s m args below meth c 5 D lo (pI AC Γ post) (tX AC Γ thr) (wσ AC Γ (σ)) 0 0 93 [(0, .ref (Γ.ad 324)), (1, .int (x1)), (2, .int (x2)), (4, .int (x4))] [] := by
  unfold wp_M_sameShares_93 at h
  refine g_iconst (v := 0) hX d_M_sameShares_93 (by decide) ?_
  refine g_sub [0, 1, 2, 3] rfl ?_
  exact b_M_sameShares_94 hX hk5 _ _ _ _ _ h
set_option maxRecDepth 100000 in
set_option maxHeartbeats 4000000 in
theorem b_M_sameShares_89 {p : Program} {l : Launch} {e : Env} {s : State} {m : MethodId} {args : Array Value} {below : List Frame} {meth : Method} {c : Code} {D : va_G} {AC : Nat → ClassId} {lo : Nat} {Γ : Ev} {post : Int32 → St → Prop} {thr : String → St → Prop} (hX : Cx p s m args meth c y_M_sameShares b_M_sameShares 5 (some .boolean) [] D AC lo) {k5 : Int32 → Int32 → Int32 → Int32 → St → Prop} (hk5 : ∀ (x1 : Int32) (x2 : Int32) (x3 : Int32) (x4 : Int32) (σ : St), k5 x1 x2 x3 x4 σ → G p l e rm_M_sameShares s m args below meth c 5 D lo (pI AC Γ post) (tX AC Γ thr) (wσ AC Γ (σ)) 0 0 5 [(0, .ref (Γ.ad 324)), (1, .int (x1)), (2, .int (x2)), (3, .int (x3)), (4, .int (x4))] []) (x1 : Int32) (x2 : Int32) (x4 : Int32) (σ : St) (h : wp_M_sameShares_89 Γ k5 post thr x1 x2 x4 σ) : G p l e rm_M_sameShares s m args below meth c 5 D lo (pI AC Γ post) (tX AC Γ thr) (wσ AC Γ (σ)) 0 0 89 [(0, .ref (Γ.ad 324)), (1, .int (x1)), (2, .int (x2)), (4, .int (x4))] [] := by
  unfold wp_M_sameShares_89 at h
  refine g_iconst (v := 1) hX d_M_sameShares_89 (by decide) ?_
  refine g_goto (tgt := 94) hX d_M_sameShares_90 (by decide) ?_
  refine g_sub [0, 1, 2, 3] rfl ?_
  exact b_M_sameShares_94 hX hk5 _ _ _ _ _ h
set_option maxRecDepth 100000 in
set_option maxHeartbeats 4000000 in
theorem b_M_sameShares_5 {p : Program} {l : Launch} {e : Env} {s : State} {m : MethodId} {args : Array Value} {below : List Frame} {meth : Method} {c : Code} {D : va_G} {AC : Nat → ClassId} {lo : Nat} {Γ : Ev} {post : Int32 → St → Prop} {thr : String → St → Prop} (hX : Cx p s m args meth c y_M_sameShares b_M_sameShares 5 (some .boolean) [] D AC lo)   : ∀ (fuel : Nat) (x1 : Int32) (x2 : Int32) (x3 : Int32) (x4 : Int32) (σ : St), wp_M_sameShares_5 Γ  post thr fuel x1 x2 x3 x4 σ → G p l e rm_M_sameShares s m args below meth c 5 D lo (pI AC Γ post) (tX AC Γ thr) (wσ AC Γ (σ)) 0 0 5 [(0, .ref (Γ.ad 324)), (1, .int (x1)), (2, .int (x2)), (3, .int (x3)), (4, .int (x4))] [] := by
  intro fuel
  induction fuel with
  | zero => intro x1 x2 x3 x4 σ h; exact False.elim h
  | succ fuel ih =>
    intro x1 x2 x3 x4 σ h
    simp only [wp_M_sameShares_5] at h
    refine g_iload hX d_M_sameShares_5 4 rfl ?_
    refine g_bipush (v := 8) hX d_M_sameShares_7 (by decide) ?_
    refine g_icmp_ge (tgt := 101) hX d_M_sameShares_9 (by decide) (fun q1 => ?_) (fun q1 => ?_)
    · have h := h.1 q1
      refine g_iload_n hX d_M_sameShares_101 rfl 3 rfl ?_
      exact g_zret hX rfl d_M_sameShares_102 h.1 ⟨_, _, rfl, rfl, h.2⟩
    · have h := h.2 q1
      refine g_iload_n hX d_M_sameShares_12 rfl 3 rfl ?_
      refine g_if_eq (tgt := 93) hX d_M_sameShares_13 (by decide) (fun q2 => ?_) (fun q2 => ?_)
      · have h := h.1 q2
        refine g_sub [0, 1, 2, 4] rfl ?_
        exact b_M_sameShares_93 hX (fun _ _ _ _ _ z => ih _ _ _ _ _ z) _ _ _ _ h
      · have h := h.2 q2
        refine g_aload_n hX d_M_sameShares_16 rfl 0 rfl ?_
        refine g_getf (i := 324) (kf := 13) hX (lt_c (by decide)) rfl (lay_MO (AC := AC) (Γ := Γ)) rfl in_M (by decide) t_818 (Or.inl rfl) rfl d_M_sameShares_17 ?_
        refine g_bipush (v := 8) hX d_M_sameShares_20 (by decide) ?_
        refine g_iload_n hX d_M_sameShares_22 rfl 1 rfl ?_
        refine g_imul hX d_M_sameShares_23 ?_
        refine g_iload hX d_M_sameShares_24 4 rfl ?_
        refine g_iadd hX d_M_sameShares_26 ?_
        obtain ⟨q3, h⟩ := h
        refine g_lald (i := 335) hX (lt_c (by decide)) rfl (lay_m10 (AC := AC) (Γ := Γ)) q3 d_M_sameShares_27 ?_
        refine g_aload_n hX d_M_sameShares_28 rfl 0 rfl ?_
        refine g_getf (i := 324) (kf := 13) hX (lt_c (by decide)) rfl (lay_MO (AC := AC) (Γ := Γ)) rfl in_M (by decide) t_818 (Or.inl rfl) rfl d_M_sameShares_29 ?_
        refine g_bipush (v := 8) hX d_M_sameShares_32 (by decide) ?_
        refine g_iload_n hX d_M_sameShares_34 rfl 2 rfl ?_
        refine g_imul hX d_M_sameShares_35 ?_
        refine g_iload hX d_M_sameShares_36 4 rfl ?_
        refine g_iadd hX d_M_sameShares_38 ?_
        obtain ⟨q4, h⟩ := h
        refine g_lald (i := 335) hX (lt_c (by decide)) rfl (lay_m10 (AC := AC) (Γ := Γ)) q4 d_M_sameShares_39 ?_
        refine g_lcmp hX d_M_sameShares_40 ?_
        refine g_if_ne (tgt := 93) hX d_M_sameShares_41 (by decide) (fun q5 => ?_) (fun q5 => ?_)
        · have h := h.1 q5
          refine g_sub [0, 1, 2, 4] rfl ?_
          exact b_M_sameShares_93 hX (fun _ _ _ _ _ z => ih _ _ _ _ _ z) _ _ _ _ h
        · have h := h.2 q5
          refine g_aload_n hX d_M_sameShares_44 rfl 0 rfl ?_
          refine g_getf (i := 324) (kf := 13) hX (lt_c (by decide)) rfl (lay_MO (AC := AC) (Γ := Γ)) rfl in_M (by decide) t_818 (Or.inl rfl) rfl d_M_sameShares_45 ?_
          refine g_bipush (v := 8) hX d_M_sameShares_48 (by decide) ?_
          refine g_iload_n hX d_M_sameShares_50 rfl 1 rfl ?_
          refine g_imul hX d_M_sameShares_51 ?_
          refine g_iload hX d_M_sameShares_52 4 rfl ?_
          refine g_iadd hX d_M_sameShares_54 ?_
          obtain ⟨q6, h⟩ := h
          refine g_lald (i := 335) hX (lt_c (by decide)) rfl (lay_m10 (AC := AC) (Γ := Γ)) q6 d_M_sameShares_55 ?_
          refine g_lconst (v := 0) hX d_M_sameShares_56 (by decide) ?_
          refine g_lcmp hX d_M_sameShares_57 ?_
          refine g_if_eq (tgt := 89) hX d_M_sameShares_58 (by decide) (fun q7 => ?_) (fun q7 => ?_)
          · have h := h.1 q7
            refine g_sub [0, 1, 2, 4] rfl ?_
            exact b_M_sameShares_89 hX (fun _ _ _ _ _ z => ih _ _ _ _ _ z) _ _ _ _ h
          · have h := h.2 q7
            refine g_aload_n hX d_M_sameShares_61 rfl 0 rfl ?_
            refine g_getf (i := 324) (kf := 14) hX (lt_c (by decide)) rfl (lay_MO (AC := AC) (Γ := Γ)) rfl in_M (by decide) t_819 (Or.inl rfl) rfl d_M_sameShares_62 ?_
            refine g_bipush (v := 8) hX d_M_sameShares_65 (by decide) ?_
            refine g_iload_n hX d_M_sameShares_67 rfl 1 rfl ?_
            refine g_imul hX d_M_sameShares_68 ?_
            refine g_iload hX d_M_sameShares_69 4 rfl ?_
            refine g_iadd hX d_M_sameShares_71 ?_
            obtain ⟨q8, h⟩ := h
            refine g_lald (i := 336) hX (lt_c (by decide)) rfl (lay_m11 (AC := AC) (Γ := Γ)) q8 d_M_sameShares_72 ?_
            refine g_aload_n hX d_M_sameShares_73 rfl 0 rfl ?_
            refine g_getf (i := 324) (kf := 14) hX (lt_c (by decide)) rfl (lay_MO (AC := AC) (Γ := Γ)) rfl in_M (by decide) t_819 (Or.inl rfl) rfl d_M_sameShares_74 ?_
            refine g_bipush (v := 8) hX d_M_sameShares_77 (by decide) ?_
            refine g_iload_n hX d_M_sameShares_79 rfl 2 rfl ?_
            refine g_imul hX d_M_sameShares_80 ?_
            refine g_iload hX d_M_sameShares_81 4 rfl ?_
            refine g_iadd hX d_M_sameShares_83 ?_
            obtain ⟨q9, h⟩ := h
            refine g_lald (i := 336) hX (lt_c (by decide)) rfl (lay_m11 (AC := AC) (Γ := Γ)) q9 d_M_sameShares_84 ?_
            refine g_lcmp hX d_M_sameShares_85 ?_
            refine g_if_ne (tgt := 93) hX d_M_sameShares_86 (by decide) (fun q10 => ?_) (fun q10 => ?_)
            · have h := h.1 q10
              refine g_sub [0, 1, 2, 4] rfl ?_
              exact b_M_sameShares_93 hX (fun _ _ _ _ _ z => ih _ _ _ _ _ z) _ _ _ _ h
            · have h := h.2 q10
              refine g_sub [0, 1, 2, 4] rfl ?_
              exact b_M_sameShares_89 hX (fun _ _ _ _ _ z => ih _ _ _ _ _ z) _ _ _ _ h
set_option maxRecDepth 100000 in
set_option maxHeartbeats 4000000 in
theorem c_M_sameShares {l : Launch} {D : va_G} {AC : Nat → ClassId} {lo : Nat} {Γ : Ev} {x1 : Int32} {x2 : Int32} {σ : St} {post : Int32 → St → Prop} {thr : String → St → Prop} (h : wp_M_sameShares Γ x1 x2 σ post thr) : Ct l y_M_sameShares hd_M_sameShares rm_M_sameShares D AC lo [.ref (Γ.ad 324), .int (x1), .int (x2)] (wσ AC Γ σ) (pI AC Γ post) (tX AC Γ thr) := by
  refine Ct.of (by decide) (Nat.le_of_ble_eq_true rfl) ?_
  intro p e s m args below meth c hadm hX
  unfold wp_M_sameShares at h
  show G p l e rm_M_sameShares s m args below meth c 5 D lo (pI AC Γ post) (tX AC Γ thr) (wσ AC Γ (σ)) 0 0 0 [(0, .ref (Γ.ad 324)), (1, .int (x1)), (2, .int (x2))] []
  refine g_iconst (v := 1) hX d_M_sameShares_0 (by decide) ?_
  refine g_istore_n hX d_M_sameShares_1 rfl (by decide) rfl ?_
  refine g_iconst (v := 0) hX d_M_sameShares_2 (by decide) ?_
  refine g_istore hX d_M_sameShares_3 (by decide) rfl ?_
  refine g_sub [2, 3, 4, 1, 0] rfl ?_
  obtain ⟨f11, h⟩ := h
  exact b_M_sameShares_5 hX  f11 _ _ _ _ _ h

def wp_M_sameMortgages_94 (Γ : Ev) (k24 : Int32 → Int32 → Int32 → Int32 → St → Prop) (post : Int32 → St → Prop) (thr : String → St → Prop) (x1 : Int32) (x2 : Int32) (x4 : Int32) (s0 : Int32) (σ : St) : Prop := k24 (x1) (x2) (s0) ((x4 + 1)) (σ)
def wp_M_sameMortgages_93 (Γ : Ev) (k24 : Int32 → Int32 → Int32 → Int32 → St → Prop) (post : Int32 → St → Prop) (thr : String → St → Prop) (x1 : Int32) (x2 : Int32) (x4 : Int32) (σ : St) : Prop := wp_M_sameMortgages_94 Γ k24 post thr (x1) (x2) (x4) ((0 : Int32)) (σ)
def wp_M_sameMortgages_24 (Γ : Ev)  (post : Int32 → St → Prop) (thr : String → St → Prop) : Nat → Int32 → Int32 → Int32 → Int32 → St → Prop
  | 0 => fun _ _ _ _ _ => False
  | fuel + 1 => fun x1 x2 x3 x4 σ => (vp_in x1 80 ∧ (((St.I (σ) 30 (x1).toNatClampNeg) ≤ x4 → ((x3 = 0 ∨ x3 = 1) ∧ post x3 (σ))) ∧ (¬ (St.I (σ) 30 (x1).toNatClampNeg) ≤ x4 → ((x3 = 0 → ((x3 = 0 ∨ x3 = 1) ∧ post x3 (σ))) ∧ (¬ x3 = 0 → (vp_in (((4 : Int32) * x1) + x4) 320 ∧ (vp_in (((4 : Int32) * x2) + x4) 320 ∧ ((¬ (St.I (σ) 31 ((((4 : Int32) * x1) + x4)).toNatClampNeg) = (St.I (σ) 31 ((((4 : Int32) * x2) + x4)).toNatClampNeg) → wp_M_sameMortgages_93 Γ (fun x1 x2 x3 x4 σ => wp_M_sameMortgages_24 Γ  post thr fuel x1 x2 x3 x4 σ) post thr (x1) (x2) (x4) (σ)) ∧ ((St.I (σ) 31 ((((4 : Int32) * x1) + x4)).toNatClampNeg) = (St.I (σ) 31 ((((4 : Int32) * x2) + x4)).toNatClampNeg) → (vp_in (((4 : Int32) * x1) + x4) 320 ∧ (vp_in (((4 : Int32) * x2) + x4) 320 ∧ ((¬ (St.I (σ) 32 ((((4 : Int32) * x1) + x4)).toNatClampNeg) = (St.I (σ) 32 ((((4 : Int32) * x2) + x4)).toNatClampNeg) → wp_M_sameMortgages_93 Γ (fun x1 x2 x3 x4 σ => wp_M_sameMortgages_24 Γ  post thr fuel x1 x2 x3 x4 σ) post thr (x1) (x2) (x4) (σ)) ∧ ((St.I (σ) 32 ((((4 : Int32) * x1) + x4)).toNatClampNeg) = (St.I (σ) 32 ((((4 : Int32) * x2) + x4)).toNatClampNeg) → wp_M_sameMortgages_94 Γ (fun x1 x2 x3 x4 σ => wp_M_sameMortgages_24 Γ  post thr fuel x1 x2 x3 x4 σ) post thr (x1) (x2) (x4) ((1 : Int32)) (σ))))))))))))))
def wp_M_sameMortgages_20 (Γ : Ev)  (post : Int32 → St → Prop) (thr : String → St → Prop) (x1 : Int32) (x2 : Int32) (s0 : Int32) (σ : St) : Prop := (∃ f13, wp_M_sameMortgages_24 Γ  post thr f13 (x1) (x2) (s0) ((0 : Int32)) (σ))
def wp_M_sameMortgages (Γ : Ev) (x1 : Int32) (x2 : Int32) (σ : St) (post : Int32 → St → Prop) (thr : String → St → Prop) : Prop := (vp_in x1 80 ∧ (vp_in x2 80 ∧ ((¬ (St.I (σ) 30 (x1).toNatClampNeg) = (St.I (σ) 30 (x2).toNatClampNeg) → wp_M_sameMortgages_20 Γ  post thr (x1) (x2) ((0 : Int32)) (σ)) ∧ ((St.I (σ) 30 (x1).toNatClampNeg) = (St.I (σ) 30 (x2).toNatClampNeg) → wp_M_sameMortgages_20 Γ  post thr (x1) (x2) ((1 : Int32)) (σ)))))
abbrev rm_M_sameMortgages : Room := { frames := 0, cells := 0, slots := 0, locals := 0 }
set_option maxRecDepth 100000 in
set_option maxHeartbeats 4000000 in
theorem b_M_sameMortgages_94 {p : Program} {l : Launch} {e : Env} {s : State} {m : MethodId} {args : Array Value} {below : List Frame} {meth : Method} {c : Code} {D : va_G} {AC : Nat → ClassId} {lo : Nat} {Γ : Ev} {post : Int32 → St → Prop} {thr : String → St → Prop} (hX : Cx p s m args meth c y_M_sameMortgages b_M_sameMortgages 5 (some .boolean) [] D AC lo) {k24 : Int32 → Int32 → Int32 → Int32 → St → Prop} (hk24 : ∀ (x1 : Int32) (x2 : Int32) (x3 : Int32) (x4 : Int32) (σ : St), k24 x1 x2 x3 x4 σ → G p l e rm_M_sameMortgages s m args below meth c 5 D lo (pI AC Γ post) (tX AC Γ thr) (wσ AC Γ (σ)) 0 0 24 [(0, .ref (Γ.ad 324)), (1, .int (x1)), (2, .int (x2)), (3, .int (x3)), (4, .int (x4))] []) (x1 : Int32) (x2 : Int32) (x4 : Int32) (s0 : Int32) (σ : St) (h : wp_M_sameMortgages_94 Γ k24 post thr x1 x2 x4 s0 σ) : G p l e rm_M_sameMortgages s m args below meth c 5 D lo (pI AC Γ post) (tX AC Γ thr) (wσ AC Γ (σ)) 0 0 94 [(0, .ref (Γ.ad 324)), (1, .int (x1)), (2, .int (x2)), (4, .int (x4))] [.int (s0)] := by
  unfold wp_M_sameMortgages_94 at h
  refine g_istore_n hX d_M_sameMortgages_94 rfl (by decide) rfl ?_
  refine g_iinc (v := x4 + 1) hX d_M_sameMortgages_95 4 rfl (congrArg (x4 + ·) (by decide)) (by decide) rfl ?_
  refine g_goto (tgt := 24) hX d_M_sameMortgages_98 (by decide) ?_
  refine g_sub [2, 3, 4, 1, 0] rfl ?_
  exact hk24 (x1) (x2) (s0) ((x4 + 1)) (σ) h
set_option maxRecDepth 100000 in
set_option maxHeartbeats 4000000 in
theorem b_M_sameMortgages_93 {p : Program} {l : Launch} {e : Env} {s : State} {m : MethodId} {args : Array Value} {below : List Frame} {meth : Method} {c : Code} {D : va_G} {AC : Nat → ClassId} {lo : Nat} {Γ : Ev} {post : Int32 → St → Prop} {thr : String → St → Prop} (hX : Cx p s m args meth c y_M_sameMortgages b_M_sameMortgages 5 (some .boolean) [] D AC lo) {k24 : Int32 → Int32 → Int32 → Int32 → St → Prop} (hk24 : ∀ (x1 : Int32) (x2 : Int32) (x3 : Int32) (x4 : Int32) (σ : St), k24 x1 x2 x3 x4 σ → G p l e rm_M_sameMortgages s m args below meth c 5 D lo (pI AC Γ post) (tX AC Γ thr) (wσ AC Γ (σ)) 0 0 24 [(0, .ref (Γ.ad 324)), (1, .int (x1)), (2, .int (x2)), (3, .int (x3)), (4, .int (x4))] []) (x1 : Int32) (x2 : Int32) (x4 : Int32) (σ : St) (h : wp_M_sameMortgages_93 Γ k24 post thr x1 x2 x4 σ) : G p l e rm_M_sameMortgages s m args below meth c 5 D lo (pI AC Γ post) (tX AC Γ thr) (wσ AC Γ (σ)) 0 0 93 [(0, .ref (Γ.ad 324)), (1, .int (x1)), (2, .int (x2)), (4, .int (x4))] [] := by
  unfold wp_M_sameMortgages_93 at h
  refine g_iconst (v := 0) hX d_M_sameMortgages_93 (by decide) ?_
  refine g_sub [0, 1, 2, 3] rfl ?_
  exact b_M_sameMortgages_94 hX hk24 _ _ _ _ _ h
set_option maxRecDepth 100000 in
set_option maxHeartbeats 4000000 in
theorem b_M_sameMortgages_24 {p : Program} {l : Launch} {e : Env} {s : State} {m : MethodId} {args : Array Value} {below : List Frame} {meth : Method} {c : Code} {D : va_G} {AC : Nat → ClassId} {lo : Nat} {Γ : Ev} {post : Int32 → St → Prop} {thr : String → St → Prop} (hX : Cx p s m args meth c y_M_sameMortgages b_M_sameMortgages 5 (some .boolean) [] D AC lo)   : ∀ (fuel : Nat) (x1 : Int32) (x2 : Int32) (x3 : Int32) (x4 : Int32) (σ : St), wp_M_sameMortgages_24 Γ  post thr fuel x1 x2 x3 x4 σ → G p l e rm_M_sameMortgages s m args below meth c 5 D lo (pI AC Γ post) (tX AC Γ thr) (wσ AC Γ (σ)) 0 0 24 [(0, .ref (Γ.ad 324)), (1, .int (x1)), (2, .int (x2)), (3, .int (x3)), (4, .int (x4))] [] := by
  intro fuel
  induction fuel with
  | zero => intro x1 x2 x3 x4 σ h; exact False.elim h
  | succ fuel ih =>
    intro x1 x2 x3 x4 σ h
    simp only [wp_M_sameMortgages_24] at h
    refine g_iload hX d_M_sameMortgages_24 4 rfl ?_
    refine g_aload_n hX d_M_sameMortgages_26 rfl 0 rfl ?_
    refine g_getf (i := 324) (kf := 15) hX (lt_c (by decide)) rfl (lay_MO (AC := AC) (Γ := Γ)) rfl in_M (by decide) t_820 (Or.inl rfl) rfl d_M_sameMortgages_27 ?_
    refine g_iload_n hX d_M_sameMortgages_30 rfl 1 rfl ?_
    obtain ⟨q4, h⟩ := h
    refine g_iald (i := 337) hX (lt_c (by decide)) rfl (lay_m12 (AC := AC) (Γ := Γ)) q4 d_M_sameMortgages_31 ?_
    refine g_icmp_ge (tgt := 101) hX d_M_sameMortgages_32 (by decide) (fun q5 => ?_) (fun q5 => ?_)
    · have h := h.1 q5
      refine g_iload_n hX d_M_sameMortgages_101 rfl 3 rfl ?_
      exact g_zret hX rfl d_M_sameMortgages_102 h.1 ⟨_, _, rfl, rfl, h.2⟩
    · have h := h.2 q5
      refine g_iload_n hX d_M_sameMortgages_35 rfl 3 rfl ?_
      refine g_if_eq (tgt := 101) hX d_M_sameMortgages_36 (by decide) (fun q6 => ?_) (fun q6 => ?_)
      · have h := h.1 q6
        refine g_iload_n hX d_M_sameMortgages_101 rfl 3 rfl ?_
        exact g_zret hX rfl d_M_sameMortgages_102 h.1 ⟨_, _, rfl, rfl, h.2⟩
      · have h := h.2 q6
        refine g_aload_n hX d_M_sameMortgages_39 rfl 0 rfl ?_
        refine g_getf (i := 324) (kf := 16) hX (lt_c (by decide)) rfl (lay_MO (AC := AC) (Γ := Γ)) rfl in_M (by decide) t_821 (Or.inl rfl) rfl d_M_sameMortgages_40 ?_
        refine g_iconst (v := 4) hX d_M_sameMortgages_43 (by decide) ?_
        refine g_iload_n hX d_M_sameMortgages_44 rfl 1 rfl ?_
        refine g_imul hX d_M_sameMortgages_45 ?_
        refine g_iload hX d_M_sameMortgages_46 4 rfl ?_
        refine g_iadd hX d_M_sameMortgages_48 ?_
        obtain ⟨q7, h⟩ := h
        refine g_iald (i := 338) hX (lt_c (by decide)) rfl (lay_m13 (AC := AC) (Γ := Γ)) q7 d_M_sameMortgages_49 ?_
        refine g_aload_n hX d_M_sameMortgages_50 rfl 0 rfl ?_
        refine g_getf (i := 324) (kf := 16) hX (lt_c (by decide)) rfl (lay_MO (AC := AC) (Γ := Γ)) rfl in_M (by decide) t_821 (Or.inl rfl) rfl d_M_sameMortgages_51 ?_
        refine g_iconst (v := 4) hX d_M_sameMortgages_54 (by decide) ?_
        refine g_iload_n hX d_M_sameMortgages_55 rfl 2 rfl ?_
        refine g_imul hX d_M_sameMortgages_56 ?_
        refine g_iload hX d_M_sameMortgages_57 4 rfl ?_
        refine g_iadd hX d_M_sameMortgages_59 ?_
        obtain ⟨q8, h⟩ := h
        refine g_iald (i := 338) hX (lt_c (by decide)) rfl (lay_m13 (AC := AC) (Γ := Γ)) q8 d_M_sameMortgages_60 ?_
        refine g_icmp_ne (tgt := 93) hX d_M_sameMortgages_61 (by decide) (fun q9 => ?_) (fun q9 => ?_)
        · have h := h.1 q9
          refine g_sub [0, 1, 2, 4] rfl ?_
          exact b_M_sameMortgages_93 hX (fun _ _ _ _ _ z => ih _ _ _ _ _ z) _ _ _ _ h
        · have h := h.2 q9
          refine g_aload_n hX d_M_sameMortgages_64 rfl 0 rfl ?_
          refine g_getf (i := 324) (kf := 17) hX (lt_c (by decide)) rfl (lay_MO (AC := AC) (Γ := Γ)) rfl in_M (by decide) t_822 (Or.inl rfl) rfl d_M_sameMortgages_65 ?_
          refine g_iconst (v := 4) hX d_M_sameMortgages_68 (by decide) ?_
          refine g_iload_n hX d_M_sameMortgages_69 rfl 1 rfl ?_
          refine g_imul hX d_M_sameMortgages_70 ?_
          refine g_iload hX d_M_sameMortgages_71 4 rfl ?_
          refine g_iadd hX d_M_sameMortgages_73 ?_
          obtain ⟨q10, h⟩ := h
          refine g_iald (i := 339) hX (lt_c (by decide)) rfl (lay_m14 (AC := AC) (Γ := Γ)) q10 d_M_sameMortgages_74 ?_
          refine g_aload_n hX d_M_sameMortgages_75 rfl 0 rfl ?_
          refine g_getf (i := 324) (kf := 17) hX (lt_c (by decide)) rfl (lay_MO (AC := AC) (Γ := Γ)) rfl in_M (by decide) t_822 (Or.inl rfl) rfl d_M_sameMortgages_76 ?_
          refine g_iconst (v := 4) hX d_M_sameMortgages_79 (by decide) ?_
          refine g_iload_n hX d_M_sameMortgages_80 rfl 2 rfl ?_
          refine g_imul hX d_M_sameMortgages_81 ?_
          refine g_iload hX d_M_sameMortgages_82 4 rfl ?_
          refine g_iadd hX d_M_sameMortgages_84 ?_
          obtain ⟨q11, h⟩ := h
          refine g_iald (i := 339) hX (lt_c (by decide)) rfl (lay_m14 (AC := AC) (Γ := Γ)) q11 d_M_sameMortgages_85 ?_
          refine g_icmp_ne (tgt := 93) hX d_M_sameMortgages_86 (by decide) (fun q12 => ?_) (fun q12 => ?_)
          · have h := h.1 q12
            refine g_sub [0, 1, 2, 4] rfl ?_
            exact b_M_sameMortgages_93 hX (fun _ _ _ _ _ z => ih _ _ _ _ _ z) _ _ _ _ h
          · have h := h.2 q12
            refine g_iconst (v := 1) hX d_M_sameMortgages_89 (by decide) ?_
            refine g_goto (tgt := 94) hX d_M_sameMortgages_90 (by decide) ?_
            refine g_sub [0, 1, 2, 4] rfl ?_
            exact b_M_sameMortgages_94 hX (fun _ _ _ _ _ z => ih _ _ _ _ _ z) _ _ _ _ _ h
set_option maxRecDepth 100000 in
set_option maxHeartbeats 4000000 in
theorem b_M_sameMortgages_20 {p : Program} {l : Launch} {e : Env} {s : State} {m : MethodId} {args : Array Value} {below : List Frame} {meth : Method} {c : Code} {D : va_G} {AC : Nat → ClassId} {lo : Nat} {Γ : Ev} {post : Int32 → St → Prop} {thr : String → St → Prop} (hX : Cx p s m args meth c y_M_sameMortgages b_M_sameMortgages 5 (some .boolean) [] D AC lo)   (x1 : Int32) (x2 : Int32) (s0 : Int32) (σ : St) (h : wp_M_sameMortgages_20 Γ  post thr x1 x2 s0 σ) : G p l e rm_M_sameMortgages s m args below meth c 5 D lo (pI AC Γ post) (tX AC Γ thr) (wσ AC Γ (σ)) 0 0 20 [(0, .ref (Γ.ad 324)), (1, .int (x1)), (2, .int (x2))] [.int (s0)] := by
  unfold wp_M_sameMortgages_20 at h
  refine g_istore_n hX d_M_sameMortgages_20 rfl (by decide) rfl ?_
  refine g_iconst (v := 0) hX d_M_sameMortgages_21 (by decide) ?_
  refine g_istore hX d_M_sameMortgages_22 (by decide) rfl ?_
  refine g_sub [2, 3, 4, 1, 0] rfl ?_
  obtain ⟨f13, h⟩ := h
  exact b_M_sameMortgages_24 hX  f13 _ _ _ _ _ h
set_option maxRecDepth 100000 in
set_option maxHeartbeats 4000000 in
theorem c_M_sameMortgages {l : Launch} {D : va_G} {AC : Nat → ClassId} {lo : Nat} {Γ : Ev} {x1 : Int32} {x2 : Int32} {σ : St} {post : Int32 → St → Prop} {thr : String → St → Prop} (h : wp_M_sameMortgages Γ x1 x2 σ post thr) : Ct l y_M_sameMortgages hd_M_sameMortgages rm_M_sameMortgages D AC lo [.ref (Γ.ad 324), .int (x1), .int (x2)] (wσ AC Γ σ) (pI AC Γ post) (tX AC Γ thr) := by
  refine Ct.of (by decide) (Nat.le_of_ble_eq_true rfl) ?_
  intro p e s m args below meth c hadm hX
  unfold wp_M_sameMortgages at h
  show G p l e rm_M_sameMortgages s m args below meth c 5 D lo (pI AC Γ post) (tX AC Γ thr) (wσ AC Γ (σ)) 0 0 0 [(0, .ref (Γ.ad 324)), (1, .int (x1)), (2, .int (x2))] []
  refine g_aload_n hX d_M_sameMortgages_0 rfl 0 rfl ?_
  refine g_getf (i := 324) (kf := 15) hX (lt_c (by decide)) rfl (lay_MO (AC := AC) (Γ := Γ)) rfl in_M (by decide) t_820 (Or.inl rfl) rfl d_M_sameMortgages_1 ?_
  refine g_iload_n hX d_M_sameMortgages_4 rfl 1 rfl ?_
  obtain ⟨q1, h⟩ := h
  refine g_iald (i := 337) hX (lt_c (by decide)) rfl (lay_m12 (AC := AC) (Γ := Γ)) q1 d_M_sameMortgages_5 ?_
  refine g_aload_n hX d_M_sameMortgages_6 rfl 0 rfl ?_
  refine g_getf (i := 324) (kf := 15) hX (lt_c (by decide)) rfl (lay_MO (AC := AC) (Γ := Γ)) rfl in_M (by decide) t_820 (Or.inl rfl) rfl d_M_sameMortgages_7 ?_
  refine g_iload_n hX d_M_sameMortgages_10 rfl 2 rfl ?_
  obtain ⟨q2, h⟩ := h
  refine g_iald (i := 337) hX (lt_c (by decide)) rfl (lay_m12 (AC := AC) (Γ := Γ)) q2 d_M_sameMortgages_11 ?_
  refine g_icmp_ne (tgt := 19) hX d_M_sameMortgages_12 (by decide) (fun q3 => ?_) (fun q3 => ?_)
  · have h := h.1 q3
    refine g_iconst (v := 0) hX d_M_sameMortgages_19 (by decide) ?_
    refine g_sub [0, 1, 2] rfl ?_
    exact b_M_sameMortgages_20 hX  _ _ _ _ h
  · have h := h.2 q3
    refine g_iconst (v := 1) hX d_M_sameMortgages_15 (by decide) ?_
    refine g_goto (tgt := 20) hX d_M_sameMortgages_16 (by decide) ?_
    refine g_sub [0, 1, 2] rfl ?_
    exact b_M_sameMortgages_20 hX  _ _ _ _ h

def wp_M_setShare_17 (Γ : Ev)  (post : St → Prop) (thr : String → St → Prop) (x1 : Int32) (x2 : Int64) (x4 : Int64) (s0 : Int64) (σ : St) : Prop := (¬ s0 = 0 ∧ (vp_in x1 640 ∧ (¬ s0 = 0 ∧ (vp_in x1 640 ∧ post (St.sL (St.sL (σ) 4 (x1).toNatClampNeg (x2 / s0)) 5 (x1).toNatClampNeg (x4 / s0))))))
def wp_M_setShare (Γ : Ev) (x1 : Int32) (x2 : Int64) (x4 : Int64) (σ : St) (post : St → Prop) (thr : String → St → Prop) : Prop := ((¬ (lg_cmp x2 (0 : Int64)) = 0 → wp_M_divisor Γ (x2) (x4) (σ) (fun v2 σ3 => wp_M_setShare_17 Γ  post thr (x1) (x2) (x4) (v2) (σ3)) thr) ∧ ((lg_cmp x2 (0 : Int64)) = 0 → wp_M_setShare_17 Γ  post thr (x1) (x2) (x4) (x4) (σ)))
abbrev rm_M_setShare : Room := { frames := 1, cells := 0, slots := 0, locals := 29 }
set_option maxRecDepth 100000 in
set_option maxHeartbeats 4000000 in
theorem b_M_setShare_17 {p : Program} {l : Launch} {e : Env} {s : State} {m : MethodId} {args : Array Value} {below : List Frame} {meth : Method} {c : Code} {D : va_G} {AC : Nat → ClassId} {lo : Nat} {Γ : Ev} {post : St → Prop} {thr : String → St → Prop} (hX : Cx p s m args meth c y_M_setShare b_M_setShare 8 none [] D AC lo)   (x1 : Int32) (x2 : Int64) (x4 : Int64) (s0 : Int64) (σ : St) (h : wp_M_setShare_17 Γ  post thr x1 x2 x4 s0 σ) : G p l e rm_M_setShare s m args below meth c 8 D lo (pV AC Γ post) (tX AC Γ thr) (wσ AC Γ (σ)) 0 0 17 [(0, .ref (Γ.ad 324)), (1, .int (x1)), (2, .long (x2)), (4, .long (x4))] [.long (s0)] := by
  unfold wp_M_setShare_17 at h
  refine g_lstore hX d_M_setShare_17 (by decide) rfl ?_
  refine g_aload_n hX d_M_setShare_19 rfl 1 rfl ?_
  refine g_getf (i := 324) (kf := 13) hX (lt_c (by decide)) rfl (lay_MO (AC := AC) (Γ := Γ)) rfl in_M (by decide) t_818 (Or.inl rfl) rfl d_M_setShare_20 ?_
  refine g_iload_n hX d_M_setShare_23 rfl 2 rfl ?_
  refine g_lload_n hX d_M_setShare_24 rfl 3 rfl ?_
  refine g_lload hX d_M_setShare_25 0 rfl ?_
  obtain ⟨q4, h⟩ := h
  refine g_ldiv hX d_M_setShare_27 q4 ?_
  obtain ⟨q5, h⟩ := h
  refine g_last (i := 335) hX (lt_c (by decide)) rfl (lay_m10 (AC := AC) (Γ := Γ)) q5 d_M_setShare_28 (wσ_m_tops (vp_updL (St.L (σ) 4) (x1).toNatClampNeg (x2 / s0))) ?_
  refine g_aload_n hX d_M_setShare_29 rfl 1 rfl ?_
  refine g_getf (i := 324) (kf := 14) hX (lt_c (by decide)) rfl (lay_MO (AC := AC) (Γ := Γ)) rfl in_M (by decide) t_819 (Or.inl rfl) rfl d_M_setShare_30 ?_
  refine g_iload_n hX d_M_setShare_33 rfl 2 rfl ?_
  refine g_lload hX d_M_setShare_34 4 rfl ?_
  refine g_lload hX d_M_setShare_36 0 rfl ?_
  obtain ⟨q6, h⟩ := h
  refine g_ldiv hX d_M_setShare_38 q6 ?_
  obtain ⟨q7, h⟩ := h
  refine g_last (i := 336) hX (lt_c (by decide)) rfl (lay_m11 (AC := AC) (Γ := Γ)) q7 d_M_setShare_39 (wσ_m_bottoms (vp_updL (St.L (St.sL (σ) 4 (x1).toNatClampNeg (x2 / s0)) 5) (x1).toNatClampNeg (x4 / s0))) ?_
  exact g_vret hX rfl d_M_setShare_40 ⟨_, rfl, rfl, h⟩
set_option maxRecDepth 100000 in
set_option maxHeartbeats 4000000 in
theorem c_M_setShare {l : Launch} {D : va_G} {AC : Nat → ClassId} {lo : Nat} {Γ : Ev} {x1 : Int32} {x2 : Int64} {x4 : Int64} {σ : St} {post : St → Prop} {thr : String → St → Prop} (h : wp_M_setShare Γ x1 x2 x4 σ post thr) : Ct l y_M_setShare hd_M_setShare rm_M_setShare D AC lo [.ref (Γ.ad 324), .int (x1), .long (x2), .long (x4)] (wσ AC Γ σ) (pV AC Γ post) (tX AC Γ thr) := by
  refine Ct.of (by decide) (Nat.le_of_ble_eq_true rfl) ?_
  intro p e s m args below meth c hadm hX
  unfold wp_M_setShare at h
  show G p l e rm_M_setShare s m args below meth c 8 D lo (pV AC Γ post) (tX AC Γ thr) (wσ AC Γ (σ)) 0 0 0 [(0, .ref (Γ.ad 324)), (1, .int (x1)), (2, .long (x2)), (4, .long (x4))] []
  refine g_lload_n hX d_M_setShare_0 rfl 2 rfl ?_
  refine g_lconst (v := 0) hX d_M_setShare_1 (by decide) ?_
  refine g_lcmp hX d_M_setShare_2 ?_
  refine g_if_ne (tgt := 11) hX d_M_setShare_3 (by decide) (fun q1 => ?_) (fun q1 => ?_)
  · have h := h.1 q1
    refine g_lload_n hX d_M_setShare_11 rfl 2 rfl ?_
    refine g_lload hX d_M_setShare_12 3 rfl ?_
    refine g_callS (k := 0) (n := 0) hX (c_M_divisor h) hdT_M_divisor hdO_M_divisor t_3 t_765 t_766 ⟨⟨by decide, by decide⟩, np_M_divisor⟩ ⟨Nat.le_of_ble_eq_true rfl, Nat.le_of_ble_eq_true rfl⟩ (Nat.le_of_ble_eq_true rfl) d_M_setShare_14 rfl ?_ (fun _ _ z => z)
    rintro _ _ ⟨v2, σ3, rfl, rfl, h⟩
    refine g_sub [0, 1, 2, 3] rfl ?_
    exact b_M_setShare_17 hX  _ _ _ _ _ h
  · have h := h.2 q1
    refine g_lload hX d_M_setShare_6 3 rfl ?_
    refine g_goto (tgt := 17) hX d_M_setShare_8 (by decide) ?_
    refine g_sub [0, 1, 2, 3] rfl ?_
    exact b_M_setShare_17 hX  _ _ _ _ _ h
