def wp_M_noPerson_10 (Γ : Ev)  (post : Int32 → St → Prop) (thr : String → St → Prop)  (σ : St) : Prop := post (1 : Int32) (σ)
def wp_M_noPerson (Γ : Ev) (x0 : Int32) (σ : St) (post : Int32 → St → Prop) (thr : String → St → Prop) : Prop := ((x0 < 0 → wp_M_noPerson_10 Γ  post thr  (σ)) ∧ (¬ x0 < 0 → ((x0 ≤ (7 : Int32) → post (0 : Int32) (σ)) ∧ (¬ x0 ≤ (7 : Int32) → wp_M_noPerson_10 Γ  post thr  (σ)))))
abbrev rm_M_noPerson : Room := { frames := 0, cells := 0, slots := 0, locals := 0 }
set_option maxRecDepth 100000 in
set_option maxHeartbeats 4000000 in
theorem b_M_noPerson_10 {p : Program} {l : Launch} {e : Env} {s : State} {m : MethodId} {args : Array Value} {below : List Frame} {meth : Method} {c : Code} {D : va_G} {AC : Nat → ClassId} {lo : Nat} {Γ : Ev} {post : Int32 → St → Prop} {thr : String → St → Prop} (hX : Cx p s m args meth c y_M_noPerson b_M_noPerson 1 (some .boolean) [] D AC lo)    (σ : St) (h : wp_M_noPerson_10 Γ  post thr  σ) : G p l e rm_M_noPerson s m args below meth c 1 D lo (pI AC Γ post) (tX AC Γ thr) (wσ AC Γ (σ)) 0 0 10 [] [] := by
  unfold wp_M_noPerson_10 at h
  refine g_iconst (v := 1) hX d_M_noPerson_10 (by decide) ?_
  refine g_goto (tgt := 15) hX d_M_noPerson_11 (by decide) ?_
  exact g_zret hX rfl d_M_noPerson_15 (by decide) ⟨_, _, rfl, rfl, h⟩
set_option maxRecDepth 100000 in
set_option maxHeartbeats 4000000 in
theorem c_M_noPerson {l : Launch} {D : va_G} {AC : Nat → ClassId} {lo : Nat} {Γ : Ev} {x0 : Int32} {σ : St} {post : Int32 → St → Prop} {thr : String → St → Prop} (h : wp_M_noPerson Γ x0 σ post thr) : Ct l y_M_noPerson hd_M_noPerson rm_M_noPerson D AC lo [.int (x0)] (wσ AC Γ σ) (pI AC Γ post) (tX AC Γ thr) := by
  refine Ct.of (by decide) (Nat.le_of_ble_eq_true rfl) ?_
  intro p e s m args below meth c hadm hX
  unfold wp_M_noPerson at h
  show G p l e rm_M_noPerson s m args below meth c 1 D lo (pI AC Γ post) (tX AC Γ thr) (wσ AC Γ (σ)) 0 0 0 [(0, .int (x0))] []
  refine g_iload_n hX d_M_noPerson_0 rfl 0 rfl ?_
  refine g_if_lt (tgt := 10) hX d_M_noPerson_1 (by decide) (fun q1 => ?_) (fun q1 => ?_)
  · have h := h.1 q1
    refine g_sub [] rfl ?_
    exact b_M_noPerson_10 hX   _ h
  · have h := h.2 q1
    refine g_iload_n hX d_M_noPerson_4 rfl 0 rfl ?_
    refine g_bipush (v := 7) hX d_M_noPerson_5 (by decide) ?_
    refine g_icmp_le (tgt := 14) hX d_M_noPerson_7 (by decide) (fun q2 => ?_) (fun q2 => ?_)
    · have h := h.1 q2
      refine g_iconst (v := 0) hX d_M_noPerson_14 (by decide) ?_
      exact g_zret hX rfl d_M_noPerson_15 (by decide) ⟨_, _, rfl, rfl, h⟩
    · have h := h.2 q2
      refine g_sub [] rfl ?_
      exact b_M_noPerson_10 hX   _ h

def wp_M_noParcel_10 (Γ : Ev)  (post : Int32 → St → Prop) (thr : String → St → Prop)  (σ : St) : Prop := post (1 : Int32) (σ)
def wp_M_noParcel (Γ : Ev) (x0 : Int32) (σ : St) (post : Int32 → St → Prop) (thr : String → St → Prop) : Prop := ((x0 < 0 → wp_M_noParcel_10 Γ  post thr  (σ)) ∧ (¬ x0 < 0 → ((x0 ≤ (79 : Int32) → post (0 : Int32) (σ)) ∧ (¬ x0 ≤ (79 : Int32) → wp_M_noParcel_10 Γ  post thr  (σ)))))
abbrev rm_M_noParcel : Room := { frames := 0, cells := 0, slots := 0, locals := 0 }
set_option maxRecDepth 100000 in
set_option maxHeartbeats 4000000 in
theorem b_M_noParcel_10 {p : Program} {l : Launch} {e : Env} {s : State} {m : MethodId} {args : Array Value} {below : List Frame} {meth : Method} {c : Code} {D : va_G} {AC : Nat → ClassId} {lo : Nat} {Γ : Ev} {post : Int32 → St → Prop} {thr : String → St → Prop} (hX : Cx p s m args meth c y_M_noParcel b_M_noParcel 1 (some .boolean) [] D AC lo)    (σ : St) (h : wp_M_noParcel_10 Γ  post thr  σ) : G p l e rm_M_noParcel s m args below meth c 1 D lo (pI AC Γ post) (tX AC Γ thr) (wσ AC Γ (σ)) 0 0 10 [] [] := by
  unfold wp_M_noParcel_10 at h
  refine g_iconst (v := 1) hX d_M_noParcel_10 (by decide) ?_
  refine g_goto (tgt := 15) hX d_M_noParcel_11 (by decide) ?_
  exact g_zret hX rfl d_M_noParcel_15 (by decide) ⟨_, _, rfl, rfl, h⟩
set_option maxRecDepth 100000 in
set_option maxHeartbeats 4000000 in
theorem c_M_noParcel {l : Launch} {D : va_G} {AC : Nat → ClassId} {lo : Nat} {Γ : Ev} {x0 : Int32} {σ : St} {post : Int32 → St → Prop} {thr : String → St → Prop} (h : wp_M_noParcel Γ x0 σ post thr) : Ct l y_M_noParcel hd_M_noParcel rm_M_noParcel D AC lo [.int (x0)] (wσ AC Γ σ) (pI AC Γ post) (tX AC Γ thr) := by
  refine Ct.of (by decide) (Nat.le_of_ble_eq_true rfl) ?_
  intro p e s m args below meth c hadm hX
  unfold wp_M_noParcel at h
  show G p l e rm_M_noParcel s m args below meth c 1 D lo (pI AC Γ post) (tX AC Γ thr) (wσ AC Γ (σ)) 0 0 0 [(0, .int (x0))] []
  refine g_iload_n hX d_M_noParcel_0 rfl 0 rfl ?_
  refine g_if_lt (tgt := 10) hX d_M_noParcel_1 (by decide) (fun q1 => ?_) (fun q1 => ?_)
  · have h := h.1 q1
    refine g_sub [] rfl ?_
    exact b_M_noParcel_10 hX   _ h
  · have h := h.2 q1
    refine g_iload_n hX d_M_noParcel_4 rfl 0 rfl ?_
    refine g_bipush (v := 79) hX d_M_noParcel_5 (by decide) ?_
    refine g_icmp_le (tgt := 14) hX d_M_noParcel_7 (by decide) (fun q2 => ?_) (fun q2 => ?_)
    · have h := h.1 q2
      refine g_iconst (v := 0) hX d_M_noParcel_14 (by decide) ?_
      exact g_zret hX rfl d_M_noParcel_15 (by decide) ⟨_, _, rfl, rfl, h⟩
    · have h := h.2 q2
      refine g_sub [] rfl ?_
      exact b_M_noParcel_10 hX   _ h

def wp_M_noAmount_11 (Γ : Ev)  (post : Int32 → St → Prop) (thr : String → St → Prop)  (σ : St) : Prop := post (1 : Int32) (σ)
def wp_M_noAmount (Γ : Ev) (x0 : Int32) (σ : St) (post : Int32 → St → Prop) (thr : String → St → Prop) : Prop := ((x0 < (1 : Int32) → wp_M_noAmount_11 Γ  post thr  (σ)) ∧ (¬ x0 < (1 : Int32) → ((x0 ≤ (1000000000 : Int32) → post (0 : Int32) (σ)) ∧ (¬ x0 ≤ (1000000000 : Int32) → wp_M_noAmount_11 Γ  post thr  (σ)))))
abbrev rm_M_noAmount : Room := { frames := 0, cells := 0, slots := 0, locals := 0 }
set_option maxRecDepth 100000 in
set_option maxHeartbeats 4000000 in
theorem b_M_noAmount_11 {p : Program} {l : Launch} {e : Env} {s : State} {m : MethodId} {args : Array Value} {below : List Frame} {meth : Method} {c : Code} {D : va_G} {AC : Nat → ClassId} {lo : Nat} {Γ : Ev} {post : Int32 → St → Prop} {thr : String → St → Prop} (hX : Cx p s m args meth c y_M_noAmount b_M_noAmount 1 (some .boolean) [] D AC lo)    (σ : St) (h : wp_M_noAmount_11 Γ  post thr  σ) : G p l e rm_M_noAmount s m args below meth c 1 D lo (pI AC Γ post) (tX AC Γ thr) (wσ AC Γ (σ)) 0 0 11 [] [] := by
  unfold wp_M_noAmount_11 at h
  refine g_iconst (v := 1) hX d_M_noAmount_11 (by decide) ?_
  refine g_goto (tgt := 16) hX d_M_noAmount_12 (by decide) ?_
  exact g_zret hX rfl d_M_noAmount_16 (by decide) ⟨_, _, rfl, rfl, h⟩
set_option maxRecDepth 100000 in
set_option maxHeartbeats 4000000 in
theorem c_M_noAmount {l : Launch} {D : va_G} {AC : Nat → ClassId} {lo : Nat} {Γ : Ev} {x0 : Int32} {σ : St} {post : Int32 → St → Prop} {thr : String → St → Prop} (h : wp_M_noAmount Γ x0 σ post thr) : Ct l y_M_noAmount hd_M_noAmount rm_M_noAmount D AC lo [.int (x0)] (wσ AC Γ σ) (pI AC Γ post) (tX AC Γ thr) := by
  refine Ct.of (by decide) (Nat.le_of_ble_eq_true rfl) ?_
  intro p e s m args below meth c hadm hX
  unfold wp_M_noAmount at h
  show G p l e rm_M_noAmount s m args below meth c 1 D lo (pI AC Γ post) (tX AC Γ thr) (wσ AC Γ (σ)) 0 0 0 [(0, .int (x0))] []
  refine g_iload_n hX d_M_noAmount_0 rfl 0 rfl ?_
  refine g_iconst (v := 1) hX d_M_noAmount_1 (by decide) ?_
  refine g_icmp_lt (tgt := 11) hX d_M_noAmount_2 (by decide) (fun q1 => ?_) (fun q1 => ?_)
  · have h := h.1 q1
    refine g_sub [] rfl ?_
    exact b_M_noAmount_11 hX   _ h
  · have h := h.2 q1
    refine g_iload_n hX d_M_noAmount_5 rfl 0 rfl ?_
    refine g_ldc (v := 1000000000) hX t_881 d_M_noAmount_6 ?_
    refine g_icmp_le (tgt := 15) hX d_M_noAmount_8 (by decide) (fun q2 => ?_) (fun q2 => ?_)
    · have h := h.1 q2
      refine g_iconst (v := 0) hX d_M_noAmount_15 (by decide) ?_
      exact g_zret hX rfl d_M_noAmount_16 (by decide) ⟨_, _, rfl, rfl, h⟩
    · have h := h.2 q2
      refine g_sub [] rfl ?_
      exact b_M_noAmount_11 hX   _ h

def wp_M_file_35 (Γ : Ev)  (post : Int32 → St → Prop) (thr : String → St → Prop) (x2 : Int32) (x3 : Int32) (x4 : Int32) (x5 : Int32) (x6 : Int32) (x7 : Int32) (s0 : Int32) (σ : St) : Prop := (((St.I (St.sI (σ) 20 0 s0) 20 0) ≤ 0 → (vp_in (St.I (St.sI (σ) 20 0 s0) 20 2) 40 ∧ (vp_in (St.I (St.sI (St.sI (σ) 20 0 s0) 21 ((St.I (St.sI (σ) 20 0 s0) 20 2)).toNatClampNeg x3) 20 2) 40 ∧ (vp_in (St.I (St.sI (St.sI (St.sI (σ) 20 0 s0) 21 ((St.I (St.sI (σ) 20 0 s0) 20 2)).toNatClampNeg x3) 22 ((St.I (St.sI (St.sI (σ) 20 0 s0) 21 ((St.I (St.sI (σ) 20 0 s0) 20 2)).toNatClampNeg x3) 20 2)).toNatClampNeg (St.I (St.sI (St.sI (σ) 20 0 s0) 21 ((St.I (St.sI (σ) 20 0 s0) 20 2)).toNatClampNeg x3) 20 1)) 20 2) 40 ∧ (vp_in (St.I (St.sI (St.sI (St.sI (St.sI (σ) 20 0 s0) 21 ((St.I (St.sI (σ) 20 0 s0) 20 2)).toNatClampNeg x3) 22 ((St.I (St.sI (St.sI (σ) 20 0 s0) 21 ((St.I (St.sI (σ) 20 0 s0) 20 2)).toNatClampNeg x3) 20 2)).toNatClampNeg (St.I (St.sI (St.sI (σ) 20 0 s0) 21 ((St.I (St.sI (σ) 20 0 s0) 20 2)).toNatClampNeg x3) 20 1)) 23 ((St.I (St.sI (St.sI (St.sI (σ) 20 0 s0) 21 ((St.I (St.sI (σ) 20 0 s0) 20 2)).toNatClampNeg x3) 22 ((St.I (St.sI (St.sI (σ) 20 0 s0) 21 ((St.I (St.sI (σ) 20 0 s0) 20 2)).toNatClampNeg x3) 20 2)).toNatClampNeg (St.I (St.sI (St.sI (σ) 20 0 s0) 21 ((St.I (St.sI (σ) 20 0 s0) 20 2)).toNatClampNeg x3) 20 1)) 20 2)).toNatClampNeg x2) 20 2) 40 ∧ (vp_in (St.I (St.sI (St.sI (St.sI (St.sI (St.sI (σ) 20 0 s0) 21 ((St.I (St.sI (σ) 20 0 s0) 20 2)).toNatClampNeg x3) 22 ((St.I (St.sI (St.sI (σ) 20 0 s0) 21 ((St.I (St.sI (σ) 20 0 s0) 20 2)).toNatClampNeg x3) 20 2)).toNatClampNeg (St.I (St.sI (St.sI (σ) 20 0 s0) 21 ((St.I (St.sI (σ) 20 0 s0) 20 2)).toNatClampNeg x3) 20 1)) 23 ((St.I (St.sI (St.sI (St.sI (σ) 20 0 s0) 21 ((St.I (St.sI (σ) 20 0 s0) 20 2)).toNatClampNeg x3) 22 ((St.I (St.sI (St.sI (σ) 20 0 s0) 21 ((St.I (St.sI (σ) 20 0 s0) 20 2)).toNatClampNeg x3) 20 2)).toNatClampNeg (St.I (St.sI (St.sI (σ) 20 0 s0) 21 ((St.I (St.sI (σ) 20 0 s0) 20 2)).toNatClampNeg x3) 20 1)) 20 2)).toNatClampNeg x2) 24 ((St.I (St.sI (St.sI (St.sI (St.sI (σ) 20 0 s0) 21 ((St.I (St.sI (σ) 20 0 s0) 20 2)).toNatClampNeg x3) 22 ((St.I (St.sI (St.sI (σ) 20 0 s0) 21 ((St.I (St.sI (σ) 20 0 s0) 20 2)).toNatClampNeg x3) 20 2)).toNatClampNeg (St.I (St.sI (St.sI (σ) 20 0 s0) 21 ((St.I (St.sI (σ) 20 0 s0) 20 2)).toNatClampNeg x3) 20 1)) 23 ((St.I (St.sI (St.sI (St.sI (σ) 20 0 s0) 21 ((St.I (St.sI (σ) 20 0 s0) 20 2)).toNatClampNeg x3) 22 ((St.I (St.sI (St.sI (σ) 20 0 s0) 21 ((St.I (St.sI (σ) 20 0 s0) 20 2)).toNatClampNeg x3) 20 2)).toNatClampNeg (St.I (St.sI (St.sI (σ) 20 0 s0) 21 ((St.I (St.sI (σ) 20 0 s0) 20 2)).toNatClampNeg x3) 20 1)) 20 2)).toNatClampNeg x2) 20 2)).toNatClampNeg x4) 20 2) 40 ∧ (vp_in (St.I (St.sI (St.sI (St.sI (St.sI (St.sI (St.sI (σ) 20 0 s0) 21 ((St.I (St.sI (σ) 20 0 s0) 20 2)).toNatClampNeg x3) 22 ((St.I (St.sI (St.sI (σ) 20 0 s0) 21 ((St.I (St.sI (σ) 20 0 s0) 20 2)).toNatClampNeg x3) 20 2)).toNatClampNeg (St.I (St.sI (St.sI (σ) 20 0 s0) 21 ((St.I (St.sI (σ) 20 0 s0) 20 2)).toNatClampNeg x3) 20 1)) 23 ((St.I (St.sI (St.sI (St.sI (σ) 20 0 s0) 21 ((St.I (St.sI (σ) 20 0 s0) 20 2)).toNatClampNeg x3) 22 ((St.I (St.sI (St.sI (σ) 20 0 s0) 21 ((St.I (St.sI (σ) 20 0 s0) 20 2)).toNatClampNeg x3) 20 2)).toNatClampNeg (St.I (St.sI (St.sI (σ) 20 0 s0) 21 ((St.I (St.sI (σ) 20 0 s0) 20 2)).toNatClampNeg x3) 20 1)) 20 2)).toNatClampNeg x2) 24 ((St.I (St.sI (St.sI (St.sI (St.sI (σ) 20 0 s0) 21 ((St.I (St.sI (σ) 20 0 s0) 20 2)).toNatClampNeg x3) 22 ((St.I (St.sI (St.sI (σ) 20 0 s0) 21 ((St.I (St.sI (σ) 20 0 s0) 20 2)).toNatClampNeg x3) 20 2)).toNatClampNeg (St.I (St.sI (St.sI (σ) 20 0 s0) 21 ((St.I (St.sI (σ) 20 0 s0) 20 2)).toNatClampNeg x3) 20 1)) 23 ((St.I (St.sI (St.sI (St.sI (σ) 20 0 s0) 21 ((St.I (St.sI (σ) 20 0 s0) 20 2)).toNatClampNeg x3) 22 ((St.I (St.sI (St.sI (σ) 20 0 s0) 21 ((St.I (St.sI (σ) 20 0 s0) 20 2)).toNatClampNeg x3) 20 2)).toNatClampNeg (St.I (St.sI (St.sI (σ) 20 0 s0) 21 ((St.I (St.sI (σ) 20 0 s0) 20 2)).toNatClampNeg x3) 20 1)) 20 2)).toNatClampNeg x2) 20 2)).toNatClampNeg x4) 25 ((St.I (St.sI (St.sI (St.sI (St.sI (St.sI (σ) 20 0 s0) 21 ((St.I (St.sI (σ) 20 0 s0) 20 2)).toNatClampNeg x3) 22 ((St.I (St.sI (St.sI (σ) 20 0 s0) 21 ((St.I (St.sI (σ) 20 0 s0) 20 2)).toNatClampNeg x3) 20 2)).toNatClampNeg (St.I (St.sI (St.sI (σ) 20 0 s0) 21 ((St.I (St.sI (σ) 20 0 s0) 20 2)).toNatClampNeg x3) 20 1)) 23 ((St.I (St.sI (St.sI (St.sI (σ) 20 0 s0) 21 ((St.I (St.sI (σ) 20 0 s0) 20 2)).toNatClampNeg x3) 22 ((St.I (St.sI (St.sI (σ) 20 0 s0) 21 ((St.I (St.sI (σ) 20 0 s0) 20 2)).toNatClampNeg x3) 20 2)).toNatClampNeg (St.I (St.sI (St.sI (σ) 20 0 s0) 21 ((St.I (St.sI (σ) 20 0 s0) 20 2)).toNatClampNeg x3) 20 1)) 20 2)).toNatClampNeg x2) 24 ((St.I (St.sI (St.sI (St.sI (St.sI (σ) 20 0 s0) 21 ((St.I (St.sI (σ) 20 0 s0) 20 2)).toNatClampNeg x3) 22 ((St.I (St.sI (St.sI (σ) 20 0 s0) 21 ((St.I (St.sI (σ) 20 0 s0) 20 2)).toNatClampNeg x3) 20 2)).toNatClampNeg (St.I (St.sI (St.sI (σ) 20 0 s0) 21 ((St.I (St.sI (σ) 20 0 s0) 20 2)).toNatClampNeg x3) 20 1)) 23 ((St.I (St.sI (St.sI (St.sI (σ) 20 0 s0) 21 ((St.I (St.sI (σ) 20 0 s0) 20 2)).toNatClampNeg x3) 22 ((St.I (St.sI (St.sI (σ) 20 0 s0) 21 ((St.I (St.sI (σ) 20 0 s0) 20 2)).toNatClampNeg x3) 20 2)).toNatClampNeg (St.I (St.sI (St.sI (σ) 20 0 s0) 21 ((St.I (St.sI (σ) 20 0 s0) 20 2)).toNatClampNeg x3) 20 1)) 20 2)).toNatClampNeg x2) 20 2)).toNatClampNeg x4) 20 2)).toNatClampNeg x5) 20 2) 40 ∧ (vp_in (St.I (St.sI (St.sI (St.sI (St.sI (St.sI (St.sI (St.sI (σ) 20 0 s0) 21 ((St.I (St.sI (σ) 20 0 s0) 20 2)).toNatClampNeg x3) 22 ((St.I (St.sI (St.sI (σ) 20 0 s0) 21 ((St.I (St.sI (σ) 20 0 s0) 20 2)).toNatClampNeg x3) 20 2)).toNatClampNeg (St.I (St.sI (St.sI (σ) 20 0 s0) 21 ((St.I (St.sI (σ) 20 0 s0) 20 2)).toNatClampNeg x3) 20 1)) 23 ((St.I (St.sI (St.sI (St.sI (σ) 20 0 s0) 21 ((St.I (St.sI (σ) 20 0 s0) 20 2)).toNatClampNeg x3) 22 ((St.I (St.sI (St.sI (σ) 20 0 s0) 21 ((St.I (St.sI (σ) 20 0 s0) 20 2)).toNatClampNeg x3) 20 2)).toNatClampNeg (St.I (St.sI (St.sI (σ) 20 0 s0) 21 ((St.I (St.sI (σ) 20 0 s0) 20 2)).toNatClampNeg x3) 20 1)) 20 2)).toNatClampNeg x2) 24 ((St.I (St.sI (St.sI (St.sI (St.sI (σ) 20 0 s0) 21 ((St.I (St.sI (σ) 20 0 s0) 20 2)).toNatClampNeg x3) 22 ((St.I (St.sI (St.sI (σ) 20 0 s0) 21 ((St.I (St.sI (σ) 20 0 s0) 20 2)).toNatClampNeg x3) 20 2)).toNatClampNeg (St.I (St.sI (St.sI (σ) 20 0 s0) 21 ((St.I (St.sI (σ) 20 0 s0) 20 2)).toNatClampNeg x3) 20 1)) 23 ((St.I (St.sI (St.sI (St.sI (σ) 20 0 s0) 21 ((St.I (St.sI (σ) 20 0 s0) 20 2)).toNatClampNeg x3) 22 ((St.I (St.sI (St.sI (σ) 20 0 s0) 21 ((St.I (St.sI (σ) 20 0 s0) 20 2)).toNatClampNeg x3) 20 2)).toNatClampNeg (St.I (St.sI (St.sI (σ) 20 0 s0) 21 ((St.I (St.sI (σ) 20 0 s0) 20 2)).toNatClampNeg x3) 20 1)) 20 2)).toNatClampNeg x2) 20 2)).toNatClampNeg x4) 25 ((St.I (St.sI (St.sI (St.sI (St.sI (St.sI (σ) 20 0 s0) 21 ((St.I (St.sI (σ) 20 0 s0) 20 2)).toNatClampNeg x3) 22 ((St.I (St.sI (St.sI (σ) 20 0 s0) 21 ((St.I (St.sI (σ) 20 0 s0) 20 2)).toNatClampNeg x3) 20 2)).toNatClampNeg (St.I (St.sI (St.sI (σ) 20 0 s0) 21 ((St.I (St.sI (σ) 20 0 s0) 20 2)).toNatClampNeg x3) 20 1)) 23 ((St.I (St.sI (St.sI (St.sI (σ) 20 0 s0) 21 ((St.I (St.sI (σ) 20 0 s0) 20 2)).toNatClampNeg x3) 22 ((St.I (St.sI (St.sI (σ) 20 0 s0) 21 ((St.I (St.sI (σ) 20 0 s0) 20 2)).toNatClampNeg x3) 20 2)).toNatClampNeg (St.I (St.sI (St.sI (σ) 20 0 s0) 21 ((St.I (St.sI (σ) 20 0 s0) 20 2)).toNatClampNeg x3) 20 1)) 20 2)).toNatClampNeg x2) 24 ((St.I (St.sI (St.sI (St.sI (St.sI (σ) 20 0 s0) 21 ((St.I (St.sI (σ) 20 0 s0) 20 2)).toNatClampNeg x3) 22 ((St.I (St.sI (St.sI (σ) 20 0 s0) 21 ((St.I (St.sI (σ) 20 0 s0) 20 2)).toNatClampNeg x3) 20 2)).toNatClampNeg (St.I (St.sI (St.sI (σ) 20 0 s0) 21 ((St.I (St.sI (σ) 20 0 s0) 20 2)).toNatClampNeg x3) 20 1)) 23 ((St.I (St.sI (St.sI (St.sI (σ) 20 0 s0) 21 ((St.I (St.sI (σ) 20 0 s0) 20 2)).toNatClampNeg x3) 22 ((St.I (St.sI (St.sI (σ) 20 0 s0) 21 ((St.I (St.sI (σ) 20 0 s0) 20 2)).toNatClampNeg x3) 20 2)).toNatClampNeg (St.I (St.sI (St.sI (σ) 20 0 s0) 21 ((St.I (St.sI (σ) 20 0 s0) 20 2)).toNatClampNeg x3) 20 1)) 20 2)).toNatClampNeg x2) 20 2)).toNatClampNeg x4) 20 2)).toNatClampNeg x5) 26 ((St.I (St.sI (St.sI (St.sI (St.sI (St.sI (St.sI (σ) 20 0 s0) 21 ((St.I (St.sI (σ) 20 0 s0) 20 2)).toNatClampNeg x3) 22 ((St.I (St.sI (St.sI (σ) 20 0 s0) 21 ((St.I (St.sI (σ) 20 0 s0) 20 2)).toNatClampNeg x3) 20 2)).toNatClampNeg (St.I (St.sI (St.sI (σ) 20 0 s0) 21 ((St.I (St.sI (σ) 20 0 s0) 20 2)).toNatClampNeg x3) 20 1)) 23 ((St.I (St.sI (St.sI (St.sI (σ) 20 0 s0) 21 ((St.I (St.sI (σ) 20 0 s0) 20 2)).toNatClampNeg x3) 22 ((St.I (St.sI (St.sI (σ) 20 0 s0) 21 ((St.I (St.sI (σ) 20 0 s0) 20 2)).toNatClampNeg x3) 20 2)).toNatClampNeg (St.I (St.sI (St.sI (σ) 20 0 s0) 21 ((St.I (St.sI (σ) 20 0 s0) 20 2)).toNatClampNeg x3) 20 1)) 20 2)).toNatClampNeg x2) 24 ((St.I (St.sI (St.sI (St.sI (St.sI (σ) 20 0 s0) 21 ((St.I (St.sI (σ) 20 0 s0) 20 2)).toNatClampNeg x3) 22 ((St.I (St.sI (St.sI (σ) 20 0 s0) 21 ((St.I (St.sI (σ) 20 0 s0) 20 2)).toNatClampNeg x3) 20 2)).toNatClampNeg (St.I (St.sI (St.sI (σ) 20 0 s0) 21 ((St.I (St.sI (σ) 20 0 s0) 20 2)).toNatClampNeg x3) 20 1)) 23 ((St.I (St.sI (St.sI (St.sI (σ) 20 0 s0) 21 ((St.I (St.sI (σ) 20 0 s0) 20 2)).toNatClampNeg x3) 22 ((St.I (St.sI (St.sI (σ) 20 0 s0) 21 ((St.I (St.sI (σ) 20 0 s0) 20 2)).toNatClampNeg x3) 20 2)).toNatClampNeg (St.I (St.sI (St.sI (σ) 20 0 s0) 21 ((St.I (St.sI (σ) 20 0 s0) 20 2)).toNatClampNeg x3) 20 1)) 20 2)).toNatClampNeg x2) 20 2)).toNatClampNeg x4) 25 ((St.I (St.sI (St.sI (St.sI (St.sI (St.sI (σ) 20 0 s0) 21 ((St.I (St.sI (σ) 20 0 s0) 20 2)).toNatClampNeg x3) 22 ((St.I (St.sI (St.sI (σ) 20 0 s0) 21 ((St.I (St.sI (σ) 20 0 s0) 20 2)).toNatClampNeg x3) 20 2)).toNatClampNeg (St.I (St.sI (St.sI (σ) 20 0 s0) 21 ((St.I (St.sI (σ) 20 0 s0) 20 2)).toNatClampNeg x3) 20 1)) 23 ((St.I (St.sI (St.sI (St.sI (σ) 20 0 s0) 21 ((St.I (St.sI (σ) 20 0 s0) 20 2)).toNatClampNeg x3) 22 ((St.I (St.sI (St.sI (σ) 20 0 s0) 21 ((St.I (St.sI (σ) 20 0 s0) 20 2)).toNatClampNeg x3) 20 2)).toNatClampNeg (St.I (St.sI (St.sI (σ) 20 0 s0) 21 ((St.I (St.sI (σ) 20 0 s0) 20 2)).toNatClampNeg x3) 20 1)) 20 2)).toNatClampNeg x2) 24 ((St.I (St.sI (St.sI (St.sI (St.sI (σ) 20 0 s0) 21 ((St.I (St.sI (σ) 20 0 s0) 20 2)).toNatClampNeg x3) 22 ((St.I (St.sI (St.sI (σ) 20 0 s0) 21 ((St.I (St.sI (σ) 20 0 s0) 20 2)).toNatClampNeg x3) 20 2)).toNatClampNeg (St.I (St.sI (St.sI (σ) 20 0 s0) 21 ((St.I (St.sI (σ) 20 0 s0) 20 2)).toNatClampNeg x3) 20 1)) 23 ((St.I (St.sI (St.sI (St.sI (σ) 20 0 s0) 21 ((St.I (St.sI (σ) 20 0 s0) 20 2)).toNatClampNeg x3) 22 ((St.I (St.sI (St.sI (σ) 20 0 s0) 21 ((St.I (St.sI (σ) 20 0 s0) 20 2)).toNatClampNeg x3) 20 2)).toNatClampNeg (St.I (St.sI (St.sI (σ) 20 0 s0) 21 ((St.I (St.sI (σ) 20 0 s0) 20 2)).toNatClampNeg x3) 20 1)) 20 2)).toNatClampNeg x2) 20 2)).toNatClampNeg x4) 20 2)).toNatClampNeg x5) 20 2)).toNatClampNeg x6) 20 2) 40 ∧ wp_M_look Γ ((St.I (St.sI (St.sI (St.sI (St.sI (St.sI (St.sI (St.sI (St.sI (St.sI (σ) 20 0 s0) 21 ((St.I (St.sI (σ) 20 0 s0) 20 2)).toNatClampNeg x3) 22 ((St.I (St.sI (St.sI (σ) 20 0 s0) 21 ((St.I (St.sI (σ) 20 0 s0) 20 2)).toNatClampNeg x3) 20 2)).toNatClampNeg (St.I (St.sI (St.sI (σ) 20 0 s0) 21 ((St.I (St.sI (σ) 20 0 s0) 20 2)).toNatClampNeg x3) 20 1)) 23 ((St.I (St.sI (St.sI (St.sI (σ) 20 0 s0) 21 ((St.I (St.sI (σ) 20 0 s0) 20 2)).toNatClampNeg x3) 22 ((St.I (St.sI (St.sI (σ) 20 0 s0) 21 ((St.I (St.sI (σ) 20 0 s0) 20 2)).toNatClampNeg x3) 20 2)).toNatClampNeg (St.I (St.sI (St.sI (σ) 20 0 s0) 21 ((St.I (St.sI (σ) 20 0 s0) 20 2)).toNatClampNeg x3) 20 1)) 20 2)).toNatClampNeg x2) 24 ((St.I (St.sI (St.sI (St.sI (St.sI (σ) 20 0 s0) 21 ((St.I (St.sI (σ) 20 0 s0) 20 2)).toNatClampNeg x3) 22 ((St.I (St.sI (St.sI (σ) 20 0 s0) 21 ((St.I (St.sI (σ) 20 0 s0) 20 2)).toNatClampNeg x3) 20 2)).toNatClampNeg (St.I (St.sI (St.sI (σ) 20 0 s0) 21 ((St.I (St.sI (σ) 20 0 s0) 20 2)).toNatClampNeg x3) 20 1)) 23 ((St.I (St.sI (St.sI (St.sI (σ) 20 0 s0) 21 ((St.I (St.sI (σ) 20 0 s0) 20 2)).toNatClampNeg x3) 22 ((St.I (St.sI (St.sI (σ) 20 0 s0) 21 ((St.I (St.sI (σ) 20 0 s0) 20 2)).toNatClampNeg x3) 20 2)).toNatClampNeg (St.I (St.sI (St.sI (σ) 20 0 s0) 21 ((St.I (St.sI (σ) 20 0 s0) 20 2)).toNatClampNeg x3) 20 1)) 20 2)).toNatClampNeg x2) 20 2)).toNatClampNeg x4) 25 ((St.I (St.sI (St.sI (St.sI (St.sI (St.sI (σ) 20 0 s0) 21 ((St.I (St.sI (σ) 20 0 s0) 20 2)).toNatClampNeg x3) 22 ((St.I (St.sI (St.sI (σ) 20 0 s0) 21 ((St.I (St.sI (σ) 20 0 s0) 20 2)).toNatClampNeg x3) 20 2)).toNatClampNeg (St.I (St.sI (St.sI (σ) 20 0 s0) 21 ((St.I (St.sI (σ) 20 0 s0) 20 2)).toNatClampNeg x3) 20 1)) 23 ((St.I (St.sI (St.sI (St.sI (σ) 20 0 s0) 21 ((St.I (St.sI (σ) 20 0 s0) 20 2)).toNatClampNeg x3) 22 ((St.I (St.sI (St.sI (σ) 20 0 s0) 21 ((St.I (St.sI (σ) 20 0 s0) 20 2)).toNatClampNeg x3) 20 2)).toNatClampNeg (St.I (St.sI (St.sI (σ) 20 0 s0) 21 ((St.I (St.sI (σ) 20 0 s0) 20 2)).toNatClampNeg x3) 20 1)) 20 2)).toNatClampNeg x2) 24 ((St.I (St.sI (St.sI (St.sI (St.sI (σ) 20 0 s0) 21 ((St.I (St.sI (σ) 20 0 s0) 20 2)).toNatClampNeg x3) 22 ((St.I (St.sI (St.sI (σ) 20 0 s0) 21 ((St.I (St.sI (σ) 20 0 s0) 20 2)).toNatClampNeg x3) 20 2)).toNatClampNeg (St.I (St.sI (St.sI (σ) 20 0 s0) 21 ((St.I (St.sI (σ) 20 0 s0) 20 2)).toNatClampNeg x3) 20 1)) 23 ((St.I (St.sI (St.sI (St.sI (σ) 20 0 s0) 21 ((St.I (St.sI (σ) 20 0 s0) 20 2)).toNatClampNeg x3) 22 ((St.I (St.sI (St.sI (σ) 20 0 s0) 21 ((St.I (St.sI (σ) 20 0 s0) 20 2)).toNatClampNeg x3) 20 2)).toNatClampNeg (St.I (St.sI (St.sI (σ) 20 0 s0) 21 ((St.I (St.sI (σ) 20 0 s0) 20 2)).toNatClampNeg x3) 20 1)) 20 2)).toNatClampNeg x2) 20 2)).toNatClampNeg x4) 20 2)).toNatClampNeg x5) 26 ((St.I (St.sI (St.sI (St.sI (St.sI (St.sI (St.sI (σ) 20 0 s0) 21 ((St.I (St.sI (σ) 20 0 s0) 20 2)).toNatClampNeg x3) 22 ((St.I (St.sI (St.sI (σ) 20 0 s0) 21 ((St.I (St.sI (σ) 20 0 s0) 20 2)).toNatClampNeg x3) 20 2)).toNatClampNeg (St.I (St.sI (St.sI (σ) 20 0 s0) 21 ((St.I (St.sI (σ) 20 0 s0) 20 2)).toNatClampNeg x3) 20 1)) 23 ((St.I (St.sI (St.sI (St.sI (σ) 20 0 s0) 21 ((St.I (St.sI (σ) 20 0 s0) 20 2)).toNatClampNeg x3) 22 ((St.I (St.sI (St.sI (σ) 20 0 s0) 21 ((St.I (St.sI (σ) 20 0 s0) 20 2)).toNatClampNeg x3) 20 2)).toNatClampNeg (St.I (St.sI (St.sI (σ) 20 0 s0) 21 ((St.I (St.sI (σ) 20 0 s0) 20 2)).toNatClampNeg x3) 20 1)) 20 2)).toNatClampNeg x2) 24 ((St.I (St.sI (St.sI (St.sI (St.sI (σ) 20 0 s0) 21 ((St.I (St.sI (σ) 20 0 s0) 20 2)).toNatClampNeg x3) 22 ((St.I (St.sI (St.sI (σ) 20 0 s0) 21 ((St.I (St.sI (σ) 20 0 s0) 20 2)).toNatClampNeg x3) 20 2)).toNatClampNeg (St.I (St.sI (St.sI (σ) 20 0 s0) 21 ((St.I (St.sI (σ) 20 0 s0) 20 2)).toNatClampNeg x3) 20 1)) 23 ((St.I (St.sI (St.sI (St.sI (σ) 20 0 s0) 21 ((St.I (St.sI (σ) 20 0 s0) 20 2)).toNatClampNeg x3) 22 ((St.I (St.sI (St.sI (σ) 20 0 s0) 21 ((St.I (St.sI (σ) 20 0 s0) 20 2)).toNatClampNeg x3) 20 2)).toNatClampNeg (St.I (St.sI (St.sI (σ) 20 0 s0) 21 ((St.I (St.sI (σ) 20 0 s0) 20 2)).toNatClampNeg x3) 20 1)) 20 2)).toNatClampNeg x2) 20 2)).toNatClampNeg x4) 25 ((St.I (St.sI (St.sI (St.sI (St.sI (St.sI (σ) 20 0 s0) 21 ((St.I (St.sI (σ) 20 0 s0) 20 2)).toNatClampNeg x3) 22 ((St.I (St.sI (St.sI (σ) 20 0 s0) 21 ((St.I (St.sI (σ) 20 0 s0) 20 2)).toNatClampNeg x3) 20 2)).toNatClampNeg (St.I (St.sI (St.sI (σ) 20 0 s0) 21 ((St.I (St.sI (σ) 20 0 s0) 20 2)).toNatClampNeg x3) 20 1)) 23 ((St.I (St.sI (St.sI (St.sI (σ) 20 0 s0) 21 ((St.I (St.sI (σ) 20 0 s0) 20 2)).toNatClampNeg x3) 22 ((St.I (St.sI (St.sI (σ) 20 0 s0) 21 ((St.I (St.sI (σ) 20 0 s0) 20 2)).toNatClampNeg x3) 20 2)).toNatClampNeg (St.I (St.sI (St.sI (σ) 20 0 s0) 21 ((St.I (St.sI (σ) 20 0 s0) 20 2)).toNatClampNeg x3) 20 1)) 20 2)).toNatClampNeg x2) 24 ((St.I (St.sI (St.sI (St.sI (St.sI (σ) 20 0 s0) 21 ((St.I (St.sI (σ) 20 0 s0) 20 2)).toNatClampNeg x3) 22 ((St.I (St.sI (St.sI (σ) 20 0 s0) 21 ((St.I (St.sI (σ) 20 0 s0) 20 2)).toNatClampNeg x3) 20 2)).toNatClampNeg (St.I (St.sI (St.sI (σ) 20 0 s0) 21 ((St.I (St.sI (σ) 20 0 s0) 20 2)).toNatClampNeg x3) 20 1)) 23 ((St.I (St.sI (St.sI (St.sI (σ) 20 0 s0) 21 ((St.I (St.sI (σ) 20 0 s0) 20 2)).toNatClampNeg x3) 22 ((St.I (St.sI (St.sI (σ) 20 0 s0) 21 ((St.I (St.sI (σ) 20 0 s0) 20 2)).toNatClampNeg x3) 20 2)).toNatClampNeg (St.I (St.sI (St.sI (σ) 20 0 s0) 21 ((St.I (St.sI (σ) 20 0 s0) 20 2)).toNatClampNeg x3) 20 1)) 20 2)).toNatClampNeg x2) 20 2)).toNatClampNeg x4) 20 2)).toNatClampNeg x5) 20 2)).toNatClampNeg x6) 27 ((St.I (St.sI (St.sI (St.sI (St.sI (St.sI (St.sI (St.sI (σ) 20 0 s0) 21 ((St.I (St.sI (σ) 20 0 s0) 20 2)).toNatClampNeg x3) 22 ((St.I (St.sI (St.sI (σ) 20 0 s0) 21 ((St.I (St.sI (σ) 20 0 s0) 20 2)).toNatClampNeg x3) 20 2)).toNatClampNeg (St.I (St.sI (St.sI (σ) 20 0 s0) 21 ((St.I (St.sI (σ) 20 0 s0) 20 2)).toNatClampNeg x3) 20 1)) 23 ((St.I (St.sI (St.sI (St.sI (σ) 20 0 s0) 21 ((St.I (St.sI (σ) 20 0 s0) 20 2)).toNatClampNeg x3) 22 ((St.I (St.sI (St.sI (σ) 20 0 s0) 21 ((St.I (St.sI (σ) 20 0 s0) 20 2)).toNatClampNeg x3) 20 2)).toNatClampNeg (St.I (St.sI (St.sI (σ) 20 0 s0) 21 ((St.I (St.sI (σ) 20 0 s0) 20 2)).toNatClampNeg x3) 20 1)) 20 2)).toNatClampNeg x2) 24 ((St.I (St.sI (St.sI (St.sI (St.sI (σ) 20 0 s0) 21 ((St.I (St.sI (σ) 20 0 s0) 20 2)).toNatClampNeg x3) 22 ((St.I (St.sI (St.sI (σ) 20 0 s0) 21 ((St.I (St.sI (σ) 20 0 s0) 20 2)).toNatClampNeg x3) 20 2)).toNatClampNeg (St.I (St.sI (St.sI (σ) 20 0 s0) 21 ((St.I (St.sI (σ) 20 0 s0) 20 2)).toNatClampNeg x3) 20 1)) 23 ((St.I (St.sI (St.sI (St.sI (σ) 20 0 s0) 21 ((St.I (St.sI (σ) 20 0 s0) 20 2)).toNatClampNeg x3) 22 ((St.I (St.sI (St.sI (σ) 20 0 s0) 21 ((St.I (St.sI (σ) 20 0 s0) 20 2)).toNatClampNeg x3) 20 2)).toNatClampNeg (St.I (St.sI (St.sI (σ) 20 0 s0) 21 ((St.I (St.sI (σ) 20 0 s0) 20 2)).toNatClampNeg x3) 20 1)) 20 2)).toNatClampNeg x2) 20 2)).toNatClampNeg x4) 25 ((St.I (St.sI (St.sI (St.sI (St.sI (St.sI (σ) 20 0 s0) 21 ((St.I (St.sI (σ) 20 0 s0) 20 2)).toNatClampNeg x3) 22 ((St.I (St.sI (St.sI (σ) 20 0 s0) 21 ((St.I (St.sI (σ) 20 0 s0) 20 2)).toNatClampNeg x3) 20 2)).toNatClampNeg (St.I (St.sI (St.sI (σ) 20 0 s0) 21 ((St.I (St.sI (σ) 20 0 s0) 20 2)).toNatClampNeg x3) 20 1)) 23 ((St.I (St.sI (St.sI (St.sI (σ) 20 0 s0) 21 ((St.I (St.sI (σ) 20 0 s0) 20 2)).toNatClampNeg x3) 22 ((St.I (St.sI (St.sI (σ) 20 0 s0) 21 ((St.I (St.sI (σ) 20 0 s0) 20 2)).toNatClampNeg x3) 20 2)).toNatClampNeg (St.I (St.sI (St.sI (σ) 20 0 s0) 21 ((St.I (St.sI (σ) 20 0 s0) 20 2)).toNatClampNeg x3) 20 1)) 20 2)).toNatClampNeg x2) 24 ((St.I (St.sI (St.sI (St.sI (St.sI (σ) 20 0 s0) 21 ((St.I (St.sI (σ) 20 0 s0) 20 2)).toNatClampNeg x3) 22 ((St.I (St.sI (St.sI (σ) 20 0 s0) 21 ((St.I (St.sI (σ) 20 0 s0) 20 2)).toNatClampNeg x3) 20 2)).toNatClampNeg (St.I (St.sI (St.sI (σ) 20 0 s0) 21 ((St.I (St.sI (σ) 20 0 s0) 20 2)).toNatClampNeg x3) 20 1)) 23 ((St.I (St.sI (St.sI (St.sI (σ) 20 0 s0) 21 ((St.I (St.sI (σ) 20 0 s0) 20 2)).toNatClampNeg x3) 22 ((St.I (St.sI (St.sI (σ) 20 0 s0) 21 ((St.I (St.sI (σ) 20 0 s0) 20 2)).toNatClampNeg x3) 20 2)).toNatClampNeg (St.I (St.sI (St.sI (σ) 20 0 s0) 21 ((St.I (St.sI (σ) 20 0 s0) 20 2)).toNatClampNeg x3) 20 1)) 20 2)).toNatClampNeg x2) 20 2)).toNatClampNeg x4) 20 2)).toNatClampNeg x5) 26 ((St.I (St.sI (St.sI (St.sI (St.sI (St.sI (St.sI (σ) 20 0 s0) 21 ((St.I (St.sI (σ) 20 0 s0) 20 2)).toNatClampNeg x3) 22 ((St.I (St.sI (St.sI (σ) 20 0 s0) 21 ((St.I (St.sI (σ) 20 0 s0) 20 2)).toNatClampNeg x3) 20 2)).toNatClampNeg (St.I (St.sI (St.sI (σ) 20 0 s0) 21 ((St.I (St.sI (σ) 20 0 s0) 20 2)).toNatClampNeg x3) 20 1)) 23 ((St.I (St.sI (St.sI (St.sI (σ) 20 0 s0) 21 ((St.I (St.sI (σ) 20 0 s0) 20 2)).toNatClampNeg x3) 22 ((St.I (St.sI (St.sI (σ) 20 0 s0) 21 ((St.I (St.sI (σ) 20 0 s0) 20 2)).toNatClampNeg x3) 20 2)).toNatClampNeg (St.I (St.sI (St.sI (σ) 20 0 s0) 21 ((St.I (St.sI (σ) 20 0 s0) 20 2)).toNatClampNeg x3) 20 1)) 20 2)).toNatClampNeg x2) 24 ((St.I (St.sI (St.sI (St.sI (St.sI (σ) 20 0 s0) 21 ((St.I (St.sI (σ) 20 0 s0) 20 2)).toNatClampNeg x3) 22 ((St.I (St.sI (St.sI (σ) 20 0 s0) 21 ((St.I (St.sI (σ) 20 0 s0) 20 2)).toNatClampNeg x3) 20 2)).toNatClampNeg (St.I (St.sI (St.sI (σ) 20 0 s0) 21 ((St.I (St.sI (σ) 20 0 s0) 20 2)).toNatClampNeg x3) 20 1)) 23 ((St.I (St.sI (St.sI (St.sI (σ) 20 0 s0) 21 ((St.I (St.sI (σ) 20 0 s0) 20 2)).toNatClampNeg x3) 22 ((St.I (St.sI (St.sI (σ) 20 0 s0) 21 ((St.I (St.sI (σ) 20 0 s0) 20 2)).toNatClampNeg x3) 20 2)).toNatClampNeg (St.I (St.sI (St.sI (σ) 20 0 s0) 21 ((St.I (St.sI (σ) 20 0 s0) 20 2)).toNatClampNeg x3) 20 1)) 20 2)).toNatClampNeg x2) 20 2)).toNatClampNeg x4) 25 ((St.I (St.sI (St.sI (St.sI (St.sI (St.sI (σ) 20 0 s0) 21 ((St.I (St.sI (σ) 20 0 s0) 20 2)).toNatClampNeg x3) 22 ((St.I (St.sI (St.sI (σ) 20 0 s0) 21 ((St.I (St.sI (σ) 20 0 s0) 20 2)).toNatClampNeg x3) 20 2)).toNatClampNeg (St.I (St.sI (St.sI (σ) 20 0 s0) 21 ((St.I (St.sI (σ) 20 0 s0) 20 2)).toNatClampNeg x3) 20 1)) 23 ((St.I (St.sI (St.sI (St.sI (σ) 20 0 s0) 21 ((St.I (St.sI (σ) 20 0 s0) 20 2)).toNatClampNeg x3) 22 ((St.I (St.sI (St.sI (σ) 20 0 s0) 21 ((St.I (St.sI (σ) 20 0 s0) 20 2)).toNatClampNeg x3) 20 2)).toNatClampNeg (St.I (St.sI (St.sI (σ) 20 0 s0) 21 ((St.I (St.sI (σ) 20 0 s0) 20 2)).toNatClampNeg x3) 20 1)) 20 2)).toNatClampNeg x2) 24 ((St.I (St.sI (St.sI (St.sI (St.sI (σ) 20 0 s0) 21 ((St.I (St.sI (σ) 20 0 s0) 20 2)).toNatClampNeg x3) 22 ((St.I (St.sI (St.sI (σ) 20 0 s0) 21 ((St.I (St.sI (σ) 20 0 s0) 20 2)).toNatClampNeg x3) 20 2)).toNatClampNeg (St.I (St.sI (St.sI (σ) 20 0 s0) 21 ((St.I (St.sI (σ) 20 0 s0) 20 2)).toNatClampNeg x3) 20 1)) 23 ((St.I (St.sI (St.sI (St.sI (σ) 20 0 s0) 21 ((St.I (St.sI (σ) 20 0 s0) 20 2)).toNatClampNeg x3) 22 ((St.I (St.sI (St.sI (σ) 20 0 s0) 21 ((St.I (St.sI (σ) 20 0 s0) 20 2)).toNatClampNeg x3) 20 2)).toNatClampNeg (St.I (St.sI (St.sI (σ) 20 0 s0) 21 ((St.I (St.sI (σ) 20 0 s0) 20 2)).toNatClampNeg x3) 20 1)) 20 2)).toNatClampNeg x2) 20 2)).toNatClampNeg x4) 20 2)).toNatClampNeg x5) 20 2)).toNatClampNeg x6) 20 2)).toNatClampNeg x7) 20 2 ((St.I (St.sI (St.sI (St.sI (St.sI (St.sI (St.sI (St.sI (St.sI (σ) 20 0 s0) 21 ((St.I (St.sI (σ) 20 0 s0) 20 2)).toNatClampNeg x3) 22 ((St.I (St.sI (St.sI (σ) 20 0 s0) 21 ((St.I (St.sI (σ) 20 0 s0) 20 2)).toNatClampNeg x3) 20 2)).toNatClampNeg (St.I (St.sI (St.sI (σ) 20 0 s0) 21 ((St.I (St.sI (σ) 20 0 s0) 20 2)).toNatClampNeg x3) 20 1)) 23 ((St.I (St.sI (St.sI (St.sI (σ) 20 0 s0) 21 ((St.I (St.sI (σ) 20 0 s0) 20 2)).toNatClampNeg x3) 22 ((St.I (St.sI (St.sI (σ) 20 0 s0) 21 ((St.I (St.sI (σ) 20 0 s0) 20 2)).toNatClampNeg x3) 20 2)).toNatClampNeg (St.I (St.sI (St.sI (σ) 20 0 s0) 21 ((St.I (St.sI (σ) 20 0 s0) 20 2)).toNatClampNeg x3) 20 1)) 20 2)).toNatClampNeg x2) 24 ((St.I (St.sI (St.sI (St.sI (St.sI (σ) 20 0 s0) 21 ((St.I (St.sI (σ) 20 0 s0) 20 2)).toNatClampNeg x3) 22 ((St.I (St.sI (St.sI (σ) 20 0 s0) 21 ((St.I (St.sI (σ) 20 0 s0) 20 2)).toNatClampNeg x3) 20 2)).toNatClampNeg (St.I (St.sI (St.sI (σ) 20 0 s0) 21 ((St.I (St.sI (σ) 20 0 s0) 20 2)).toNatClampNeg x3) 20 1)) 23 ((St.I (St.sI (St.sI (St.sI (σ) 20 0 s0) 21 ((St.I (St.sI (σ) 20 0 s0) 20 2)).toNatClampNeg x3) 22 ((St.I (St.sI (St.sI (σ) 20 0 s0) 21 ((St.I (St.sI (σ) 20 0 s0) 20 2)).toNatClampNeg x3) 20 2)).toNatClampNeg (St.I (St.sI (St.sI (σ) 20 0 s0) 21 ((St.I (St.sI (σ) 20 0 s0) 20 2)).toNatClampNeg x3) 20 1)) 20 2)).toNatClampNeg x2) 20 2)).toNatClampNeg x4) 25 ((St.I (St.sI (St.sI (St.sI (St.sI (St.sI (σ) 20 0 s0) 21 ((St.I (St.sI (σ) 20 0 s0) 20 2)).toNatClampNeg x3) 22 ((St.I (St.sI (St.sI (σ) 20 0 s0) 21 ((St.I (St.sI (σ) 20 0 s0) 20 2)).toNatClampNeg x3) 20 2)).toNatClampNeg (St.I (St.sI (St.sI (σ) 20 0 s0) 21 ((St.I (St.sI (σ) 20 0 s0) 20 2)).toNatClampNeg x3) 20 1)) 23 ((St.I (St.sI (St.sI (St.sI (σ) 20 0 s0) 21 ((St.I (St.sI (σ) 20 0 s0) 20 2)).toNatClampNeg x3) 22 ((St.I (St.sI (St.sI (σ) 20 0 s0) 21 ((St.I (St.sI (σ) 20 0 s0) 20 2)).toNatClampNeg x3) 20 2)).toNatClampNeg (St.I (St.sI (St.sI (σ) 20 0 s0) 21 ((St.I (St.sI (σ) 20 0 s0) 20 2)).toNatClampNeg x3) 20 1)) 20 2)).toNatClampNeg x2) 24 ((St.I (St.sI (St.sI (St.sI (St.sI (σ) 20 0 s0) 21 ((St.I (St.sI (σ) 20 0 s0) 20 2)).toNatClampNeg x3) 22 ((St.I (St.sI (St.sI (σ) 20 0 s0) 21 ((St.I (St.sI (σ) 20 0 s0) 20 2)).toNatClampNeg x3) 20 2)).toNatClampNeg (St.I (St.sI (St.sI (σ) 20 0 s0) 21 ((St.I (St.sI (σ) 20 0 s0) 20 2)).toNatClampNeg x3) 20 1)) 23 ((St.I (St.sI (St.sI (St.sI (σ) 20 0 s0) 21 ((St.I (St.sI (σ) 20 0 s0) 20 2)).toNatClampNeg x3) 22 ((St.I (St.sI (St.sI (σ) 20 0 s0) 21 ((St.I (St.sI (σ) 20 0 s0) 20 2)).toNatClampNeg x3) 20 2)).toNatClampNeg (St.I (St.sI (St.sI (σ) 20 0 s0) 21 ((St.I (St.sI (σ) 20 0 s0) 20 2)).toNatClampNeg x3) 20 1)) 20 2)).toNatClampNeg x2) 20 2)).toNatClampNeg x4) 20 2)).toNatClampNeg x5) 26 ((St.I (St.sI (St.sI (St.sI (St.sI (St.sI (St.sI (σ) 20 0 s0) 21 ((St.I (St.sI (σ) 20 0 s0) 20 2)).toNatClampNeg x3) 22 ((St.I (St.sI (St.sI (σ) 20 0 s0) 21 ((St.I (St.sI (σ) 20 0 s0) 20 2)).toNatClampNeg x3) 20 2)).toNatClampNeg (St.I (St.sI (St.sI (σ) 20 0 s0) 21 ((St.I (St.sI (σ) 20 0 s0) 20 2)).toNatClampNeg x3) 20 1)) 23 ((St.I (St.sI (St.sI (St.sI (σ) 20 0 s0) 21 ((St.I (St.sI (σ) 20 0 s0) 20 2)).toNatClampNeg x3) 22 ((St.I (St.sI (St.sI (σ) 20 0 s0) 21 ((St.I (St.sI (σ) 20 0 s0) 20 2)).toNatClampNeg x3) 20 2)).toNatClampNeg (St.I (St.sI (St.sI (σ) 20 0 s0) 21 ((St.I (St.sI (σ) 20 0 s0) 20 2)).toNatClampNeg x3) 20 1)) 20 2)).toNatClampNeg x2) 24 ((St.I (St.sI (St.sI (St.sI (St.sI (σ) 20 0 s0) 21 ((St.I (St.sI (σ) 20 0 s0) 20 2)).toNatClampNeg x3) 22 ((St.I (St.sI (St.sI (σ) 20 0 s0) 21 ((St.I (St.sI (σ) 20 0 s0) 20 2)).toNatClampNeg x3) 20 2)).toNatClampNeg (St.I (St.sI (St.sI (σ) 20 0 s0) 21 ((St.I (St.sI (σ) 20 0 s0) 20 2)).toNatClampNeg x3) 20 1)) 23 ((St.I (St.sI (St.sI (St.sI (σ) 20 0 s0) 21 ((St.I (St.sI (σ) 20 0 s0) 20 2)).toNatClampNeg x3) 22 ((St.I (St.sI (St.sI (σ) 20 0 s0) 21 ((St.I (St.sI (σ) 20 0 s0) 20 2)).toNatClampNeg x3) 20 2)).toNatClampNeg (St.I (St.sI (St.sI (σ) 20 0 s0) 21 ((St.I (St.sI (σ) 20 0 s0) 20 2)).toNatClampNeg x3) 20 1)) 20 2)).toNatClampNeg x2) 20 2)).toNatClampNeg x4) 25 ((St.I (St.sI (St.sI (St.sI (St.sI (St.sI (σ) 20 0 s0) 21 ((St.I (St.sI (σ) 20 0 s0) 20 2)).toNatClampNeg x3) 22 ((St.I (St.sI (St.sI (σ) 20 0 s0) 21 ((St.I (St.sI (σ) 20 0 s0) 20 2)).toNatClampNeg x3) 20 2)).toNatClampNeg (St.I (St.sI (St.sI (σ) 20 0 s0) 21 ((St.I (St.sI (σ) 20 0 s0) 20 2)).toNatClampNeg x3) 20 1)) 23 ((St.I (St.sI (St.sI (St.sI (σ) 20 0 s0) 21 ((St.I (St.sI (σ) 20 0 s0) 20 2)).toNatClampNeg x3) 22 ((St.I (St.sI (St.sI (σ) 20 0 s0) 21 ((St.I (St.sI (σ) 20 0 s0) 20 2)).toNatClampNeg x3) 20 2)).toNatClampNeg (St.I (St.sI (St.sI (σ) 20 0 s0) 21 ((St.I (St.sI (σ) 20 0 s0) 20 2)).toNatClampNeg x3) 20 1)) 20 2)).toNatClampNeg x2) 24 ((St.I (St.sI (St.sI (St.sI (St.sI (σ) 20 0 s0) 21 ((St.I (St.sI (σ) 20 0 s0) 20 2)).toNatClampNeg x3) 22 ((St.I (St.sI (St.sI (σ) 20 0 s0) 21 ((St.I (St.sI (σ) 20 0 s0) 20 2)).toNatClampNeg x3) 20 2)).toNatClampNeg (St.I (St.sI (St.sI (σ) 20 0 s0) 21 ((St.I (St.sI (σ) 20 0 s0) 20 2)).toNatClampNeg x3) 20 1)) 23 ((St.I (St.sI (St.sI (St.sI (σ) 20 0 s0) 21 ((St.I (St.sI (σ) 20 0 s0) 20 2)).toNatClampNeg x3) 22 ((St.I (St.sI (St.sI (σ) 20 0 s0) 21 ((St.I (St.sI (σ) 20 0 s0) 20 2)).toNatClampNeg x3) 20 2)).toNatClampNeg (St.I (St.sI (St.sI (σ) 20 0 s0) 21 ((St.I (St.sI (σ) 20 0 s0) 20 2)).toNatClampNeg x3) 20 1)) 20 2)).toNatClampNeg x2) 20 2)).toNatClampNeg x4) 20 2)).toNatClampNeg x5) 20 2)).toNatClampNeg x6) 27 ((St.I (St.sI (St.sI (St.sI (St.sI (St.sI (St.sI (St.sI (σ) 20 0 s0) 21 ((St.I (St.sI (σ) 20 0 s0) 20 2)).toNatClampNeg x3) 22 ((St.I (St.sI (St.sI (σ) 20 0 s0) 21 ((St.I (St.sI (σ) 20 0 s0) 20 2)).toNatClampNeg x3) 20 2)).toNatClampNeg (St.I (St.sI (St.sI (σ) 20 0 s0) 21 ((St.I (St.sI (σ) 20 0 s0) 20 2)).toNatClampNeg x3) 20 1)) 23 ((St.I (St.sI (St.sI (St.sI (σ) 20 0 s0) 21 ((St.I (St.sI (σ) 20 0 s0) 20 2)).toNatClampNeg x3) 22 ((St.I (St.sI (St.sI (σ) 20 0 s0) 21 ((St.I (St.sI (σ) 20 0 s0) 20 2)).toNatClampNeg x3) 20 2)).toNatClampNeg (St.I (St.sI (St.sI (σ) 20 0 s0) 21 ((St.I (St.sI (σ) 20 0 s0) 20 2)).toNatClampNeg x3) 20 1)) 20 2)).toNatClampNeg x2) 24 ((St.I (St.sI (St.sI (St.sI (St.sI (σ) 20 0 s0) 21 ((St.I (St.sI (σ) 20 0 s0) 20 2)).toNatClampNeg x3) 22 ((St.I (St.sI (St.sI (σ) 20 0 s0) 21 ((St.I (St.sI (σ) 20 0 s0) 20 2)).toNatClampNeg x3) 20 2)).toNatClampNeg (St.I (St.sI (St.sI (σ) 20 0 s0) 21 ((St.I (St.sI (σ) 20 0 s0) 20 2)).toNatClampNeg x3) 20 1)) 23 ((St.I (St.sI (St.sI (St.sI (σ) 20 0 s0) 21 ((St.I (St.sI (σ) 20 0 s0) 20 2)).toNatClampNeg x3) 22 ((St.I (St.sI (St.sI (σ) 20 0 s0) 21 ((St.I (St.sI (σ) 20 0 s0) 20 2)).toNatClampNeg x3) 20 2)).toNatClampNeg (St.I (St.sI (St.sI (σ) 20 0 s0) 21 ((St.I (St.sI (σ) 20 0 s0) 20 2)).toNatClampNeg x3) 20 1)) 20 2)).toNatClampNeg x2) 20 2)).toNatClampNeg x4) 25 ((St.I (St.sI (St.sI (St.sI (St.sI (St.sI (σ) 20 0 s0) 21 ((St.I (St.sI (σ) 20 0 s0) 20 2)).toNatClampNeg x3) 22 ((St.I (St.sI (St.sI (σ) 20 0 s0) 21 ((St.I (St.sI (σ) 20 0 s0) 20 2)).toNatClampNeg x3) 20 2)).toNatClampNeg (St.I (St.sI (St.sI (σ) 20 0 s0) 21 ((St.I (St.sI (σ) 20 0 s0) 20 2)).toNatClampNeg x3) 20 1)) 23 ((St.I (St.sI (St.sI (St.sI (σ) 20 0 s0) 21 ((St.I (St.sI (σ) 20 0 s0) 20 2)).toNatClampNeg x3) 22 ((St.I (St.sI (St.sI (σ) 20 0 s0) 21 ((St.I (St.sI (σ) 20 0 s0) 20 2)).toNatClampNeg x3) 20 2)).toNatClampNeg (St.I (St.sI (St.sI (σ) 20 0 s0) 21 ((St.I (St.sI (σ) 20 0 s0) 20 2)).toNatClampNeg x3) 20 1)) 20 2)).toNatClampNeg x2) 24 ((St.I (St.sI (St.sI (St.sI (St.sI (σ) 20 0 s0) 21 ((St.I (St.sI (σ) 20 0 s0) 20 2)).toNatClampNeg x3) 22 ((St.I (St.sI (St.sI (σ) 20 0 s0) 21 ((St.I (St.sI (σ) 20 0 s0) 20 2)).toNatClampNeg x3) 20 2)).toNatClampNeg (St.I (St.sI (St.sI (σ) 20 0 s0) 21 ((St.I (St.sI (σ) 20 0 s0) 20 2)).toNatClampNeg x3) 20 1)) 23 ((St.I (St.sI (St.sI (St.sI (σ) 20 0 s0) 21 ((St.I (St.sI (σ) 20 0 s0) 20 2)).toNatClampNeg x3) 22 ((St.I (St.sI (St.sI (σ) 20 0 s0) 21 ((St.I (St.sI (σ) 20 0 s0) 20 2)).toNatClampNeg x3) 20 2)).toNatClampNeg (St.I (St.sI (St.sI (σ) 20 0 s0) 21 ((St.I (St.sI (σ) 20 0 s0) 20 2)).toNatClampNeg x3) 20 1)) 20 2)).toNatClampNeg x2) 20 2)).toNatClampNeg x4) 20 2)).toNatClampNeg x5) 26 ((St.I (St.sI (St.sI (St.sI (St.sI (St.sI (St.sI (σ) 20 0 s0) 21 ((St.I (St.sI (σ) 20 0 s0) 20 2)).toNatClampNeg x3) 22 ((St.I (St.sI (St.sI (σ) 20 0 s0) 21 ((St.I (St.sI (σ) 20 0 s0) 20 2)).toNatClampNeg x3) 20 2)).toNatClampNeg (St.I (St.sI (St.sI (σ) 20 0 s0) 21 ((St.I (St.sI (σ) 20 0 s0) 20 2)).toNatClampNeg x3) 20 1)) 23 ((St.I (St.sI (St.sI (St.sI (σ) 20 0 s0) 21 ((St.I (St.sI (σ) 20 0 s0) 20 2)).toNatClampNeg x3) 22 ((St.I (St.sI (St.sI (σ) 20 0 s0) 21 ((St.I (St.sI (σ) 20 0 s0) 20 2)).toNatClampNeg x3) 20 2)).toNatClampNeg (St.I (St.sI (St.sI (σ) 20 0 s0) 21 ((St.I (St.sI (σ) 20 0 s0) 20 2)).toNatClampNeg x3) 20 1)) 20 2)).toNatClampNeg x2) 24 ((St.I (St.sI (St.sI (St.sI (St.sI (σ) 20 0 s0) 21 ((St.I (St.sI (σ) 20 0 s0) 20 2)).toNatClampNeg x3) 22 ((St.I (St.sI (St.sI (σ) 20 0 s0) 21 ((St.I (St.sI (σ) 20 0 s0) 20 2)).toNatClampNeg x3) 20 2)).toNatClampNeg (St.I (St.sI (St.sI (σ) 20 0 s0) 21 ((St.I (St.sI (σ) 20 0 s0) 20 2)).toNatClampNeg x3) 20 1)) 23 ((St.I (St.sI (St.sI (St.sI (σ) 20 0 s0) 21 ((St.I (St.sI (σ) 20 0 s0) 20 2)).toNatClampNeg x3) 22 ((St.I (St.sI (St.sI (σ) 20 0 s0) 21 ((St.I (St.sI (σ) 20 0 s0) 20 2)).toNatClampNeg x3) 20 2)).toNatClampNeg (St.I (St.sI (St.sI (σ) 20 0 s0) 21 ((St.I (St.sI (σ) 20 0 s0) 20 2)).toNatClampNeg x3) 20 1)) 20 2)).toNatClampNeg x2) 20 2)).toNatClampNeg x4) 25 ((St.I (St.sI (St.sI (St.sI (St.sI (St.sI (σ) 20 0 s0) 21 ((St.I (St.sI (σ) 20 0 s0) 20 2)).toNatClampNeg x3) 22 ((St.I (St.sI (St.sI (σ) 20 0 s0) 21 ((St.I (St.sI (σ) 20 0 s0) 20 2)).toNatClampNeg x3) 20 2)).toNatClampNeg (St.I (St.sI (St.sI (σ) 20 0 s0) 21 ((St.I (St.sI (σ) 20 0 s0) 20 2)).toNatClampNeg x3) 20 1)) 23 ((St.I (St.sI (St.sI (St.sI (σ) 20 0 s0) 21 ((St.I (St.sI (σ) 20 0 s0) 20 2)).toNatClampNeg x3) 22 ((St.I (St.sI (St.sI (σ) 20 0 s0) 21 ((St.I (St.sI (σ) 20 0 s0) 20 2)).toNatClampNeg x3) 20 2)).toNatClampNeg (St.I (St.sI (St.sI (σ) 20 0 s0) 21 ((St.I (St.sI (σ) 20 0 s0) 20 2)).toNatClampNeg x3) 20 1)) 20 2)).toNatClampNeg x2) 24 ((St.I (St.sI (St.sI (St.sI (St.sI (σ) 20 0 s0) 21 ((St.I (St.sI (σ) 20 0 s0) 20 2)).toNatClampNeg x3) 22 ((St.I (St.sI (St.sI (σ) 20 0 s0) 21 ((St.I (St.sI (σ) 20 0 s0) 20 2)).toNatClampNeg x3) 20 2)).toNatClampNeg (St.I (St.sI (St.sI (σ) 20 0 s0) 21 ((St.I (St.sI (σ) 20 0 s0) 20 2)).toNatClampNeg x3) 20 1)) 23 ((St.I (St.sI (St.sI (St.sI (σ) 20 0 s0) 21 ((St.I (St.sI (σ) 20 0 s0) 20 2)).toNatClampNeg x3) 22 ((St.I (St.sI (St.sI (σ) 20 0 s0) 21 ((St.I (St.sI (σ) 20 0 s0) 20 2)).toNatClampNeg x3) 20 2)).toNatClampNeg (St.I (St.sI (St.sI (σ) 20 0 s0) 21 ((St.I (St.sI (σ) 20 0 s0) 20 2)).toNatClampNeg x3) 20 1)) 20 2)).toNatClampNeg x2) 20 2)).toNatClampNeg x4) 20 2)).toNatClampNeg x5) 20 2)).toNatClampNeg x6) 20 2)).toNatClampNeg x7) 20 2) + (1 : Int32))) 20 1)) ((St.I (St.sI (St.sI (St.sI (St.sI (St.sI (St.sI (St.sI (St.sI (St.sI (σ) 20 0 s0) 21 ((St.I (St.sI (σ) 20 0 s0) 20 2)).toNatClampNeg x3) 22 ((St.I (St.sI (St.sI (σ) 20 0 s0) 21 ((St.I (St.sI (σ) 20 0 s0) 20 2)).toNatClampNeg x3) 20 2)).toNatClampNeg (St.I (St.sI (St.sI (σ) 20 0 s0) 21 ((St.I (St.sI (σ) 20 0 s0) 20 2)).toNatClampNeg x3) 20 1)) 23 ((St.I (St.sI (St.sI (St.sI (σ) 20 0 s0) 21 ((St.I (St.sI (σ) 20 0 s0) 20 2)).toNatClampNeg x3) 22 ((St.I (St.sI (St.sI (σ) 20 0 s0) 21 ((St.I (St.sI (σ) 20 0 s0) 20 2)).toNatClampNeg x3) 20 2)).toNatClampNeg (St.I (St.sI (St.sI (σ) 20 0 s0) 21 ((St.I (St.sI (σ) 20 0 s0) 20 2)).toNatClampNeg x3) 20 1)) 20 2)).toNatClampNeg x2) 24 ((St.I (St.sI (St.sI (St.sI (St.sI (σ) 20 0 s0) 21 ((St.I (St.sI (σ) 20 0 s0) 20 2)).toNatClampNeg x3) 22 ((St.I (St.sI (St.sI (σ) 20 0 s0) 21 ((St.I (St.sI (σ) 20 0 s0) 20 2)).toNatClampNeg x3) 20 2)).toNatClampNeg (St.I (St.sI (St.sI (σ) 20 0 s0) 21 ((St.I (St.sI (σ) 20 0 s0) 20 2)).toNatClampNeg x3) 20 1)) 23 ((St.I (St.sI (St.sI (St.sI (σ) 20 0 s0) 21 ((St.I (St.sI (σ) 20 0 s0) 20 2)).toNatClampNeg x3) 22 ((St.I (St.sI (St.sI (σ) 20 0 s0) 21 ((St.I (St.sI (σ) 20 0 s0) 20 2)).toNatClampNeg x3) 20 2)).toNatClampNeg (St.I (St.sI (St.sI (σ) 20 0 s0) 21 ((St.I (St.sI (σ) 20 0 s0) 20 2)).toNatClampNeg x3) 20 1)) 20 2)).toNatClampNeg x2) 20 2)).toNatClampNeg x4) 25 ((St.I (St.sI (St.sI (St.sI (St.sI (St.sI (σ) 20 0 s0) 21 ((St.I (St.sI (σ) 20 0 s0) 20 2)).toNatClampNeg x3) 22 ((St.I (St.sI (St.sI (σ) 20 0 s0) 21 ((St.I (St.sI (σ) 20 0 s0) 20 2)).toNatClampNeg x3) 20 2)).toNatClampNeg (St.I (St.sI (St.sI (σ) 20 0 s0) 21 ((St.I (St.sI (σ) 20 0 s0) 20 2)).toNatClampNeg x3) 20 1)) 23 ((St.I (St.sI (St.sI (St.sI (σ) 20 0 s0) 21 ((St.I (St.sI (σ) 20 0 s0) 20 2)).toNatClampNeg x3) 22 ((St.I (St.sI (St.sI (σ) 20 0 s0) 21 ((St.I (St.sI (σ) 20 0 s0) 20 2)).toNatClampNeg x3) 20 2)).toNatClampNeg (St.I (St.sI (St.sI (σ) 20 0 s0) 21 ((St.I (St.sI (σ) 20 0 s0) 20 2)).toNatClampNeg x3) 20 1)) 20 2)).toNatClampNeg x2) 24 ((St.I (St.sI (St.sI (St.sI (St.sI (σ) 20 0 s0) 21 ((St.I (St.sI (σ) 20 0 s0) 20 2)).toNatClampNeg x3) 22 ((St.I (St.sI (St.sI (σ) 20 0 s0) 21 ((St.I (St.sI (σ) 20 0 s0) 20 2)).toNatClampNeg x3) 20 2)).toNatClampNeg (St.I (St.sI (St.sI (σ) 20 0 s0) 21 ((St.I (St.sI (σ) 20 0 s0) 20 2)).toNatClampNeg x3) 20 1)) 23 ((St.I (St.sI (St.sI (St.sI (σ) 20 0 s0) 21 ((St.I (St.sI (σ) 20 0 s0) 20 2)).toNatClampNeg x3) 22 ((St.I (St.sI (St.sI (σ) 20 0 s0) 21 ((St.I (St.sI (σ) 20 0 s0) 20 2)).toNatClampNeg x3) 20 2)).toNatClampNeg (St.I (St.sI (St.sI (σ) 20 0 s0) 21 ((St.I (St.sI (σ) 20 0 s0) 20 2)).toNatClampNeg x3) 20 1)) 20 2)).toNatClampNeg x2) 20 2)).toNatClampNeg x4) 20 2)).toNatClampNeg x5) 26 ((St.I (St.sI (St.sI (St.sI (St.sI (St.sI (St.sI (σ) 20 0 s0) 21 ((St.I (St.sI (σ) 20 0 s0) 20 2)).toNatClampNeg x3) 22 ((St.I (St.sI (St.sI (σ) 20 0 s0) 21 ((St.I (St.sI (σ) 20 0 s0) 20 2)).toNatClampNeg x3) 20 2)).toNatClampNeg (St.I (St.sI (St.sI (σ) 20 0 s0) 21 ((St.I (St.sI (σ) 20 0 s0) 20 2)).toNatClampNeg x3) 20 1)) 23 ((St.I (St.sI (St.sI (St.sI (σ) 20 0 s0) 21 ((St.I (St.sI (σ) 20 0 s0) 20 2)).toNatClampNeg x3) 22 ((St.I (St.sI (St.sI (σ) 20 0 s0) 21 ((St.I (St.sI (σ) 20 0 s0) 20 2)).toNatClampNeg x3) 20 2)).toNatClampNeg (St.I (St.sI (St.sI (σ) 20 0 s0) 21 ((St.I (St.sI (σ) 20 0 s0) 20 2)).toNatClampNeg x3) 20 1)) 20 2)).toNatClampNeg x2) 24 ((St.I (St.sI (St.sI (St.sI (St.sI (σ) 20 0 s0) 21 ((St.I (St.sI (σ) 20 0 s0) 20 2)).toNatClampNeg x3) 22 ((St.I (St.sI (St.sI (σ) 20 0 s0) 21 ((St.I (St.sI (σ) 20 0 s0) 20 2)).toNatClampNeg x3) 20 2)).toNatClampNeg (St.I (St.sI (St.sI (σ) 20 0 s0) 21 ((St.I (St.sI (σ) 20 0 s0) 20 2)).toNatClampNeg x3) 20 1)) 23 ((St.I (St.sI (St.sI (St.sI (σ) 20 0 s0) 21 ((St.I (St.sI (σ) 20 0 s0) 20 2)).toNatClampNeg x3) 22 ((St.I (St.sI (St.sI (σ) 20 0 s0) 21 ((St.I (St.sI (σ) 20 0 s0) 20 2)).toNatClampNeg x3) 20 2)).toNatClampNeg (St.I (St.sI (St.sI (σ) 20 0 s0) 21 ((St.I (St.sI (σ) 20 0 s0) 20 2)).toNatClampNeg x3) 20 1)) 20 2)).toNatClampNeg x2) 20 2)).toNatClampNeg x4) 25 ((St.I (St.sI (St.sI (St.sI (St.sI (St.sI (σ) 20 0 s0) 21 ((St.I (St.sI (σ) 20 0 s0) 20 2)).toNatClampNeg x3) 22 ((St.I (St.sI (St.sI (σ) 20 0 s0) 21 ((St.I (St.sI (σ) 20 0 s0) 20 2)).toNatClampNeg x3) 20 2)).toNatClampNeg (St.I (St.sI (St.sI (σ) 20 0 s0) 21 ((St.I (St.sI (σ) 20 0 s0) 20 2)).toNatClampNeg x3) 20 1)) 23 ((St.I (St.sI (St.sI (St.sI (σ) 20 0 s0) 21 ((St.I (St.sI (σ) 20 0 s0) 20 2)).toNatClampNeg x3) 22 ((St.I (St.sI (St.sI (σ) 20 0 s0) 21 ((St.I (St.sI (σ) 20 0 s0) 20 2)).toNatClampNeg x3) 20 2)).toNatClampNeg (St.I (St.sI (St.sI (σ) 20 0 s0) 21 ((St.I (St.sI (σ) 20 0 s0) 20 2)).toNatClampNeg x3) 20 1)) 20 2)).toNatClampNeg x2) 24 ((St.I (St.sI (St.sI (St.sI (St.sI (σ) 20 0 s0) 21 ((St.I (St.sI (σ) 20 0 s0) 20 2)).toNatClampNeg x3) 22 ((St.I (St.sI (St.sI (σ) 20 0 s0) 21 ((St.I (St.sI (σ) 20 0 s0) 20 2)).toNatClampNeg x3) 20 2)).toNatClampNeg (St.I (St.sI (St.sI (σ) 20 0 s0) 21 ((St.I (St.sI (σ) 20 0 s0) 20 2)).toNatClampNeg x3) 20 1)) 23 ((St.I (St.sI (St.sI (St.sI (σ) 20 0 s0) 21 ((St.I (St.sI (σ) 20 0 s0) 20 2)).toNatClampNeg x3) 22 ((St.I (St.sI (St.sI (σ) 20 0 s0) 21 ((St.I (St.sI (σ) 20 0 s0) 20 2)).toNatClampNeg x3) 20 2)).toNatClampNeg (St.I (St.sI (St.sI (σ) 20 0 s0) 21 ((St.I (St.sI (σ) 20 0 s0) 20 2)).toNatClampNeg x3) 20 1)) 20 2)).toNatClampNeg x2) 20 2)).toNatClampNeg x4) 20 2)).toNatClampNeg x5) 20 2)).toNatClampNeg x6) 27 ((St.I (St.sI (St.sI (St.sI (St.sI (St.sI (St.sI (St.sI (σ) 20 0 s0) 21 ((St.I (St.sI (σ) 20 0 s0) 20 2)).toNatClampNeg x3) 22 ((St.I (St.sI (St.sI (σ) 20 0 s0) 21 ((St.I (St.sI (σ) 20 0 s0) 20 2)).toNatClampNeg x3) 20 2)).toNatClampNeg (St.I (St.sI (St.sI (σ) 20 0 s0) 21 ((St.I (St.sI (σ) 20 0 s0) 20 2)).toNatClampNeg x3) 20 1)) 23 ((St.I (St.sI (St.sI (St.sI (σ) 20 0 s0) 21 ((St.I (St.sI (σ) 20 0 s0) 20 2)).toNatClampNeg x3) 22 ((St.I (St.sI (St.sI (σ) 20 0 s0) 21 ((St.I (St.sI (σ) 20 0 s0) 20 2)).toNatClampNeg x3) 20 2)).toNatClampNeg (St.I (St.sI (St.sI (σ) 20 0 s0) 21 ((St.I (St.sI (σ) 20 0 s0) 20 2)).toNatClampNeg x3) 20 1)) 20 2)).toNatClampNeg x2) 24 ((St.I (St.sI (St.sI (St.sI (St.sI (σ) 20 0 s0) 21 ((St.I (St.sI (σ) 20 0 s0) 20 2)).toNatClampNeg x3) 22 ((St.I (St.sI (St.sI (σ) 20 0 s0) 21 ((St.I (St.sI (σ) 20 0 s0) 20 2)).toNatClampNeg x3) 20 2)).toNatClampNeg (St.I (St.sI (St.sI (σ) 20 0 s0) 21 ((St.I (St.sI (σ) 20 0 s0) 20 2)).toNatClampNeg x3) 20 1)) 23 ((St.I (St.sI (St.sI (St.sI (σ) 20 0 s0) 21 ((St.I (St.sI (σ) 20 0 s0) 20 2)).toNatClampNeg x3) 22 ((St.I (St.sI (St.sI (σ) 20 0 s0) 21 ((St.I (St.sI (σ) 20 0 s0) 20 2)).toNatClampNeg x3) 20 2)).toNatClampNeg (St.I (St.sI (St.sI (σ) 20 0 s0) 21 ((St.I (St.sI (σ) 20 0 s0) 20 2)).toNatClampNeg x3) 20 1)) 20 2)).toNatClampNeg x2) 20 2)).toNatClampNeg x4) 25 ((St.I (St.sI (St.sI (St.sI (St.sI (St.sI (σ) 20 0 s0) 21 ((St.I (St.sI (σ) 20 0 s0) 20 2)).toNatClampNeg x3) 22 ((St.I (St.sI (St.sI (σ) 20 0 s0) 21 ((St.I (St.sI (σ) 20 0 s0) 20 2)).toNatClampNeg x3) 20 2)).toNatClampNeg (St.I (St.sI (St.sI (σ) 20 0 s0) 21 ((St.I (St.sI (σ) 20 0 s0) 20 2)).toNatClampNeg x3) 20 1)) 23 ((St.I (St.sI (St.sI (St.sI (σ) 20 0 s0) 21 ((St.I (St.sI (σ) 20 0 s0) 20 2)).toNatClampNeg x3) 22 ((St.I (St.sI (St.sI (σ) 20 0 s0) 21 ((St.I (St.sI (σ) 20 0 s0) 20 2)).toNatClampNeg x3) 20 2)).toNatClampNeg (St.I (St.sI (St.sI (σ) 20 0 s0) 21 ((St.I (St.sI (σ) 20 0 s0) 20 2)).toNatClampNeg x3) 20 1)) 20 2)).toNatClampNeg x2) 24 ((St.I (St.sI (St.sI (St.sI (St.sI (σ) 20 0 s0) 21 ((St.I (St.sI (σ) 20 0 s0) 20 2)).toNatClampNeg x3) 22 ((St.I (St.sI (St.sI (σ) 20 0 s0) 21 ((St.I (St.sI (σ) 20 0 s0) 20 2)).toNatClampNeg x3) 20 2)).toNatClampNeg (St.I (St.sI (St.sI (σ) 20 0 s0) 21 ((St.I (St.sI (σ) 20 0 s0) 20 2)).toNatClampNeg x3) 20 1)) 23 ((St.I (St.sI (St.sI (St.sI (σ) 20 0 s0) 21 ((St.I (St.sI (σ) 20 0 s0) 20 2)).toNatClampNeg x3) 22 ((St.I (St.sI (St.sI (σ) 20 0 s0) 21 ((St.I (St.sI (σ) 20 0 s0) 20 2)).toNatClampNeg x3) 20 2)).toNatClampNeg (St.I (St.sI (St.sI (σ) 20 0 s0) 21 ((St.I (St.sI (σ) 20 0 s0) 20 2)).toNatClampNeg x3) 20 1)) 20 2)).toNatClampNeg x2) 20 2)).toNatClampNeg x4) 20 2)).toNatClampNeg x5) 26 ((St.I (St.sI (St.sI (St.sI (St.sI (St.sI (St.sI (σ) 20 0 s0) 21 ((St.I (St.sI (σ) 20 0 s0) 20 2)).toNatClampNeg x3) 22 ((St.I (St.sI (St.sI (σ) 20 0 s0) 21 ((St.I (St.sI (σ) 20 0 s0) 20 2)).toNatClampNeg x3) 20 2)).toNatClampNeg (St.I (St.sI (St.sI (σ) 20 0 s0) 21 ((St.I (St.sI (σ) 20 0 s0) 20 2)).toNatClampNeg x3) 20 1)) 23 ((St.I (St.sI (St.sI (St.sI (σ) 20 0 s0) 21 ((St.I (St.sI (σ) 20 0 s0) 20 2)).toNatClampNeg x3) 22 ((St.I (St.sI (St.sI (σ) 20 0 s0) 21 ((St.I (St.sI (σ) 20 0 s0) 20 2)).toNatClampNeg x3) 20 2)).toNatClampNeg (St.I (St.sI (St.sI (σ) 20 0 s0) 21 ((St.I (St.sI (σ) 20 0 s0) 20 2)).toNatClampNeg x3) 20 1)) 20 2)).toNatClampNeg x2) 24 ((St.I (St.sI (St.sI (St.sI (St.sI (σ) 20 0 s0) 21 ((St.I (St.sI (σ) 20 0 s0) 20 2)).toNatClampNeg x3) 22 ((St.I (St.sI (St.sI (σ) 20 0 s0) 21 ((St.I (St.sI (σ) 20 0 s0) 20 2)).toNatClampNeg x3) 20 2)).toNatClampNeg (St.I (St.sI (St.sI (σ) 20 0 s0) 21 ((St.I (St.sI (σ) 20 0 s0) 20 2)).toNatClampNeg x3) 20 1)) 23 ((St.I (St.sI (St.sI (St.sI (σ) 20 0 s0) 21 ((St.I (St.sI (σ) 20 0 s0) 20 2)).toNatClampNeg x3) 22 ((St.I (St.sI (St.sI (σ) 20 0 s0) 21 ((St.I (St.sI (σ) 20 0 s0) 20 2)).toNatClampNeg x3) 20 2)).toNatClampNeg (St.I (St.sI (St.sI (σ) 20 0 s0) 21 ((St.I (St.sI (σ) 20 0 s0) 20 2)).toNatClampNeg x3) 20 1)) 20 2)).toNatClampNeg x2) 20 2)).toNatClampNeg x4) 25 ((St.I (St.sI (St.sI (St.sI (St.sI (St.sI (σ) 20 0 s0) 21 ((St.I (St.sI (σ) 20 0 s0) 20 2)).toNatClampNeg x3) 22 ((St.I (St.sI (St.sI (σ) 20 0 s0) 21 ((St.I (St.sI (σ) 20 0 s0) 20 2)).toNatClampNeg x3) 20 2)).toNatClampNeg (St.I (St.sI (St.sI (σ) 20 0 s0) 21 ((St.I (St.sI (σ) 20 0 s0) 20 2)).toNatClampNeg x3) 20 1)) 23 ((St.I (St.sI (St.sI (St.sI (σ) 20 0 s0) 21 ((St.I (St.sI (σ) 20 0 s0) 20 2)).toNatClampNeg x3) 22 ((St.I (St.sI (St.sI (σ) 20 0 s0) 21 ((St.I (St.sI (σ) 20 0 s0) 20 2)).toNatClampNeg x3) 20 2)).toNatClampNeg (St.I (St.sI (St.sI (σ) 20 0 s0) 21 ((St.I (St.sI (σ) 20 0 s0) 20 2)).toNatClampNeg x3) 20 1)) 20 2)).toNatClampNeg x2) 24 ((St.I (St.sI (St.sI (St.sI (St.sI (σ) 20 0 s0) 21 ((St.I (St.sI (σ) 20 0 s0) 20 2)).toNatClampNeg x3) 22 ((St.I (St.sI (St.sI (σ) 20 0 s0) 21 ((St.I (St.sI (σ) 20 0 s0) 20 2)).toNatClampNeg x3) 20 2)).toNatClampNeg (St.I (St.sI (St.sI (σ) 20 0 s0) 21 ((St.I (St.sI (σ) 20 0 s0) 20 2)).toNatClampNeg x3) 20 1)) 23 ((St.I (St.sI (St.sI (St.sI (σ) 20 0 s0) 21 ((St.I (St.sI (σ) 20 0 s0) 20 2)).toNatClampNeg x3) 22 ((St.I (St.sI (St.sI (σ) 20 0 s0) 21 ((St.I (St.sI (σ) 20 0 s0) 20 2)).toNatClampNeg x3) 20 2)).toNatClampNeg (St.I (St.sI (St.sI (σ) 20 0 s0) 21 ((St.I (St.sI (σ) 20 0 s0) 20 2)).toNatClampNeg x3) 20 1)) 20 2)).toNatClampNeg x2) 20 2)).toNatClampNeg x4) 20 2)).toNatClampNeg x5) 20 2)).toNatClampNeg x6) 20 2)).toNatClampNeg x7) 20 2 ((St.I (St.sI (St.sI (St.sI (St.sI (St.sI (St.sI (St.sI (St.sI (σ) 20 0 s0) 21 ((St.I (St.sI (σ) 20 0 s0) 20 2)).toNatClampNeg x3) 22 ((St.I (St.sI (St.sI (σ) 20 0 s0) 21 ((St.I (St.sI (σ) 20 0 s0) 20 2)).toNatClampNeg x3) 20 2)).toNatClampNeg (St.I (St.sI (St.sI (σ) 20 0 s0) 21 ((St.I (St.sI (σ) 20 0 s0) 20 2)).toNatClampNeg x3) 20 1)) 23 ((St.I (St.sI (St.sI (St.sI (σ) 20 0 s0) 21 ((St.I (St.sI (σ) 20 0 s0) 20 2)).toNatClampNeg x3) 22 ((St.I (St.sI (St.sI (σ) 20 0 s0) 21 ((St.I (St.sI (σ) 20 0 s0) 20 2)).toNatClampNeg x3) 20 2)).toNatClampNeg (St.I (St.sI (St.sI (σ) 20 0 s0) 21 ((St.I (St.sI (σ) 20 0 s0) 20 2)).toNatClampNeg x3) 20 1)) 20 2)).toNatClampNeg x2) 24 ((St.I (St.sI (St.sI (St.sI (St.sI (σ) 20 0 s0) 21 ((St.I (St.sI (σ) 20 0 s0) 20 2)).toNatClampNeg x3) 22 ((St.I (St.sI (St.sI (σ) 20 0 s0) 21 ((St.I (St.sI (σ) 20 0 s0) 20 2)).toNatClampNeg x3) 20 2)).toNatClampNeg (St.I (St.sI (St.sI (σ) 20 0 s0) 21 ((St.I (St.sI (σ) 20 0 s0) 20 2)).toNatClampNeg x3) 20 1)) 23 ((St.I (St.sI (St.sI (St.sI (σ) 20 0 s0) 21 ((St.I (St.sI (σ) 20 0 s0) 20 2)).toNatClampNeg x3) 22 ((St.I (St.sI (St.sI (σ) 20 0 s0) 21 ((St.I (St.sI (σ) 20 0 s0) 20 2)).toNatClampNeg x3) 20 2)).toNatClampNeg (St.I (St.sI (St.sI (σ) 20 0 s0) 21 ((St.I (St.sI (σ) 20 0 s0) 20 2)).toNatClampNeg x3) 20 1)) 20 2)).toNatClampNeg x2) 20 2)).toNatClampNeg x4) 25 ((St.I (St.sI (St.sI (St.sI (St.sI (St.sI (σ) 20 0 s0) 21 ((St.I (St.sI (σ) 20 0 s0) 20 2)).toNatClampNeg x3) 22 ((St.I (St.sI (St.sI (σ) 20 0 s0) 21 ((St.I (St.sI (σ) 20 0 s0) 20 2)).toNatClampNeg x3) 20 2)).toNatClampNeg (St.I (St.sI (St.sI (σ) 20 0 s0) 21 ((St.I (St.sI (σ) 20 0 s0) 20 2)).toNatClampNeg x3) 20 1)) 23 ((St.I (St.sI (St.sI (St.sI (σ) 20 0 s0) 21 ((St.I (St.sI (σ) 20 0 s0) 20 2)).toNatClampNeg x3) 22 ((St.I (St.sI (St.sI (σ) 20 0 s0) 21 ((St.I (St.sI (σ) 20 0 s0) 20 2)).toNatClampNeg x3) 20 2)).toNatClampNeg (St.I (St.sI (St.sI (σ) 20 0 s0) 21 ((St.I (St.sI (σ) 20 0 s0) 20 2)).toNatClampNeg x3) 20 1)) 20 2)).toNatClampNeg x2) 24 ((St.I (St.sI (St.sI (St.sI (St.sI (σ) 20 0 s0) 21 ((St.I (St.sI (σ) 20 0 s0) 20 2)).toNatClampNeg x3) 22 ((St.I (St.sI (St.sI (σ) 20 0 s0) 21 ((St.I (St.sI (σ) 20 0 s0) 20 2)).toNatClampNeg x3) 20 2)).toNatClampNeg (St.I (St.sI (St.sI (σ) 20 0 s0) 21 ((St.I (St.sI (σ) 20 0 s0) 20 2)).toNatClampNeg x3) 20 1)) 23 ((St.I (St.sI (St.sI (St.sI (σ) 20 0 s0) 21 ((St.I (St.sI (σ) 20 0 s0) 20 2)).toNatClampNeg x3) 22 ((St.I (St.sI (St.sI (σ) 20 0 s0) 21 ((St.I (St.sI (σ) 20 0 s0) 20 2)).toNatClampNeg x3) 20 2)).toNatClampNeg (St.I (St.sI (St.sI (σ) 20 0 s0) 21 ((St.I (St.sI (σ) 20 0 s0) 20 2)).toNatClampNeg x3) 20 1)) 20 2)).toNatClampNeg x2) 20 2)).toNatClampNeg x4) 20 2)).toNatClampNeg x5) 26 ((St.I (St.sI (St.sI (St.sI (St.sI (St.sI (St.sI (σ) 20 0 s0) 21 ((St.I (St.sI (σ) 20 0 s0) 20 2)).toNatClampNeg x3) 22 ((St.I (St.sI (St.sI (σ) 20 0 s0) 21 ((St.I (St.sI (σ) 20 0 s0) 20 2)).toNatClampNeg x3) 20 2)).toNatClampNeg (St.I (St.sI (St.sI (σ) 20 0 s0) 21 ((St.I (St.sI (σ) 20 0 s0) 20 2)).toNatClampNeg x3) 20 1)) 23 ((St.I (St.sI (St.sI (St.sI (σ) 20 0 s0) 21 ((St.I (St.sI (σ) 20 0 s0) 20 2)).toNatClampNeg x3) 22 ((St.I (St.sI (St.sI (σ) 20 0 s0) 21 ((St.I (St.sI (σ) 20 0 s0) 20 2)).toNatClampNeg x3) 20 2)).toNatClampNeg (St.I (St.sI (St.sI (σ) 20 0 s0) 21 ((St.I (St.sI (σ) 20 0 s0) 20 2)).toNatClampNeg x3) 20 1)) 20 2)).toNatClampNeg x2) 24 ((St.I (St.sI (St.sI (St.sI (St.sI (σ) 20 0 s0) 21 ((St.I (St.sI (σ) 20 0 s0) 20 2)).toNatClampNeg x3) 22 ((St.I (St.sI (St.sI (σ) 20 0 s0) 21 ((St.I (St.sI (σ) 20 0 s0) 20 2)).toNatClampNeg x3) 20 2)).toNatClampNeg (St.I (St.sI (St.sI (σ) 20 0 s0) 21 ((St.I (St.sI (σ) 20 0 s0) 20 2)).toNatClampNeg x3) 20 1)) 23 ((St.I (St.sI (St.sI (St.sI (σ) 20 0 s0) 21 ((St.I (St.sI (σ) 20 0 s0) 20 2)).toNatClampNeg x3) 22 ((St.I (St.sI (St.sI (σ) 20 0 s0) 21 ((St.I (St.sI (σ) 20 0 s0) 20 2)).toNatClampNeg x3) 20 2)).toNatClampNeg (St.I (St.sI (St.sI (σ) 20 0 s0) 21 ((St.I (St.sI (σ) 20 0 s0) 20 2)).toNatClampNeg x3) 20 1)) 20 2)).toNatClampNeg x2) 20 2)).toNatClampNeg x4) 25 ((St.I (St.sI (St.sI (St.sI (St.sI (St.sI (σ) 20 0 s0) 21 ((St.I (St.sI (σ) 20 0 s0) 20 2)).toNatClampNeg x3) 22 ((St.I (St.sI (St.sI (σ) 20 0 s0) 21 ((St.I (St.sI (σ) 20 0 s0) 20 2)).toNatClampNeg x3) 20 2)).toNatClampNeg (St.I (St.sI (St.sI (σ) 20 0 s0) 21 ((St.I (St.sI (σ) 20 0 s0) 20 2)).toNatClampNeg x3) 20 1)) 23 ((St.I (St.sI (St.sI (St.sI (σ) 20 0 s0) 21 ((St.I (St.sI (σ) 20 0 s0) 20 2)).toNatClampNeg x3) 22 ((St.I (St.sI (St.sI (σ) 20 0 s0) 21 ((St.I (St.sI (σ) 20 0 s0) 20 2)).toNatClampNeg x3) 20 2)).toNatClampNeg (St.I (St.sI (St.sI (σ) 20 0 s0) 21 ((St.I (St.sI (σ) 20 0 s0) 20 2)).toNatClampNeg x3) 20 1)) 20 2)).toNatClampNeg x2) 24 ((St.I (St.sI (St.sI (St.sI (St.sI (σ) 20 0 s0) 21 ((St.I (St.sI (σ) 20 0 s0) 20 2)).toNatClampNeg x3) 22 ((St.I (St.sI (St.sI (σ) 20 0 s0) 21 ((St.I (St.sI (σ) 20 0 s0) 20 2)).toNatClampNeg x3) 20 2)).toNatClampNeg (St.I (St.sI (St.sI (σ) 20 0 s0) 21 ((St.I (St.sI (σ) 20 0 s0) 20 2)).toNatClampNeg x3) 20 1)) 23 ((St.I (St.sI (St.sI (St.sI (σ) 20 0 s0) 21 ((St.I (St.sI (σ) 20 0 s0) 20 2)).toNatClampNeg x3) 22 ((St.I (St.sI (St.sI (σ) 20 0 s0) 21 ((St.I (St.sI (σ) 20 0 s0) 20 2)).toNatClampNeg x3) 20 2)).toNatClampNeg (St.I (St.sI (St.sI (σ) 20 0 s0) 21 ((St.I (St.sI (σ) 20 0 s0) 20 2)).toNatClampNeg x3) 20 1)) 20 2)).toNatClampNeg x2) 20 2)).toNatClampNeg x4) 20 2)).toNatClampNeg x5) 20 2)).toNatClampNeg x6) 27 ((St.I (St.sI (St.sI (St.sI (St.sI (St.sI (St.sI (St.sI (σ) 20 0 s0) 21 ((St.I (St.sI (σ) 20 0 s0) 20 2)).toNatClampNeg x3) 22 ((St.I (St.sI (St.sI (σ) 20 0 s0) 21 ((St.I (St.sI (σ) 20 0 s0) 20 2)).toNatClampNeg x3) 20 2)).toNatClampNeg (St.I (St.sI (St.sI (σ) 20 0 s0) 21 ((St.I (St.sI (σ) 20 0 s0) 20 2)).toNatClampNeg x3) 20 1)) 23 ((St.I (St.sI (St.sI (St.sI (σ) 20 0 s0) 21 ((St.I (St.sI (σ) 20 0 s0) 20 2)).toNatClampNeg x3) 22 ((St.I (St.sI (St.sI (σ) 20 0 s0) 21 ((St.I (St.sI (σ) 20 0 s0) 20 2)).toNatClampNeg x3) 20 2)).toNatClampNeg (St.I (St.sI (St.sI (σ) 20 0 s0) 21 ((St.I (St.sI (σ) 20 0 s0) 20 2)).toNatClampNeg x3) 20 1)) 20 2)).toNatClampNeg x2) 24 ((St.I (St.sI (St.sI (St.sI (St.sI (σ) 20 0 s0) 21 ((St.I (St.sI (σ) 20 0 s0) 20 2)).toNatClampNeg x3) 22 ((St.I (St.sI (St.sI (σ) 20 0 s0) 21 ((St.I (St.sI (σ) 20 0 s0) 20 2)).toNatClampNeg x3) 20 2)).toNatClampNeg (St.I (St.sI (St.sI (σ) 20 0 s0) 21 ((St.I (St.sI (σ) 20 0 s0) 20 2)).toNatClampNeg x3) 20 1)) 23 ((St.I (St.sI (St.sI (St.sI (σ) 20 0 s0) 21 ((St.I (St.sI (σ) 20 0 s0) 20 2)).toNatClampNeg x3) 22 ((St.I (St.sI (St.sI (σ) 20 0 s0) 21 ((St.I (St.sI (σ) 20 0 s0) 20 2)).toNatClampNeg x3) 20 2)).toNatClampNeg (St.I (St.sI (St.sI (σ) 20 0 s0) 21 ((St.I (St.sI (σ) 20 0 s0) 20 2)).toNatClampNeg x3) 20 1)) 20 2)).toNatClampNeg x2) 20 2)).toNatClampNeg x4) 25 ((St.I (St.sI (St.sI (St.sI (St.sI (St.sI (σ) 20 0 s0) 21 ((St.I (St.sI (σ) 20 0 s0) 20 2)).toNatClampNeg x3) 22 ((St.I (St.sI (St.sI (σ) 20 0 s0) 21 ((St.I (St.sI (σ) 20 0 s0) 20 2)).toNatClampNeg x3) 20 2)).toNatClampNeg (St.I (St.sI (St.sI (σ) 20 0 s0) 21 ((St.I (St.sI (σ) 20 0 s0) 20 2)).toNatClampNeg x3) 20 1)) 23 ((St.I (St.sI (St.sI (St.sI (σ) 20 0 s0) 21 ((St.I (St.sI (σ) 20 0 s0) 20 2)).toNatClampNeg x3) 22 ((St.I (St.sI (St.sI (σ) 20 0 s0) 21 ((St.I (St.sI (σ) 20 0 s0) 20 2)).toNatClampNeg x3) 20 2)).toNatClampNeg (St.I (St.sI (St.sI (σ) 20 0 s0) 21 ((St.I (St.sI (σ) 20 0 s0) 20 2)).toNatClampNeg x3) 20 1)) 20 2)).toNatClampNeg x2) 24 ((St.I (St.sI (St.sI (St.sI (St.sI (σ) 20 0 s0) 21 ((St.I (St.sI (σ) 20 0 s0) 20 2)).toNatClampNeg x3) 22 ((St.I (St.sI (St.sI (σ) 20 0 s0) 21 ((St.I (St.sI (σ) 20 0 s0) 20 2)).toNatClampNeg x3) 20 2)).toNatClampNeg (St.I (St.sI (St.sI (σ) 20 0 s0) 21 ((St.I (St.sI (σ) 20 0 s0) 20 2)).toNatClampNeg x3) 20 1)) 23 ((St.I (St.sI (St.sI (St.sI (σ) 20 0 s0) 21 ((St.I (St.sI (σ) 20 0 s0) 20 2)).toNatClampNeg x3) 22 ((St.I (St.sI (St.sI (σ) 20 0 s0) 21 ((St.I (St.sI (σ) 20 0 s0) 20 2)).toNatClampNeg x3) 20 2)).toNatClampNeg (St.I (St.sI (St.sI (σ) 20 0 s0) 21 ((St.I (St.sI (σ) 20 0 s0) 20 2)).toNatClampNeg x3) 20 1)) 20 2)).toNatClampNeg x2) 20 2)).toNatClampNeg x4) 20 2)).toNatClampNeg x5) 26 ((St.I (St.sI (St.sI (St.sI (St.sI (St.sI (St.sI (σ) 20 0 s0) 21 ((St.I (St.sI (σ) 20 0 s0) 20 2)).toNatClampNeg x3) 22 ((St.I (St.sI (St.sI (σ) 20 0 s0) 21 ((St.I (St.sI (σ) 20 0 s0) 20 2)).toNatClampNeg x3) 20 2)).toNatClampNeg (St.I (St.sI (St.sI (σ) 20 0 s0) 21 ((St.I (St.sI (σ) 20 0 s0) 20 2)).toNatClampNeg x3) 20 1)) 23 ((St.I (St.sI (St.sI (St.sI (σ) 20 0 s0) 21 ((St.I (St.sI (σ) 20 0 s0) 20 2)).toNatClampNeg x3) 22 ((St.I (St.sI (St.sI (σ) 20 0 s0) 21 ((St.I (St.sI (σ) 20 0 s0) 20 2)).toNatClampNeg x3) 20 2)).toNatClampNeg (St.I (St.sI (St.sI (σ) 20 0 s0) 21 ((St.I (St.sI (σ) 20 0 s0) 20 2)).toNatClampNeg x3) 20 1)) 20 2)).toNatClampNeg x2) 24 ((St.I (St.sI (St.sI (St.sI (St.sI (σ) 20 0 s0) 21 ((St.I (St.sI (σ) 20 0 s0) 20 2)).toNatClampNeg x3) 22 ((St.I (St.sI (St.sI (σ) 20 0 s0) 21 ((St.I (St.sI (σ) 20 0 s0) 20 2)).toNatClampNeg x3) 20 2)).toNatClampNeg (St.I (St.sI (St.sI (σ) 20 0 s0) 21 ((St.I (St.sI (σ) 20 0 s0) 20 2)).toNatClampNeg x3) 20 1)) 23 ((St.I (St.sI (St.sI (St.sI (σ) 20 0 s0) 21 ((St.I (St.sI (σ) 20 0 s0) 20 2)).toNatClampNeg x3) 22 ((St.I (St.sI (St.sI (σ) 20 0 s0) 21 ((St.I (St.sI (σ) 20 0 s0) 20 2)).toNatClampNeg x3) 20 2)).toNatClampNeg (St.I (St.sI (St.sI (σ) 20 0 s0) 21 ((St.I (St.sI (σ) 20 0 s0) 20 2)).toNatClampNeg x3) 20 1)) 20 2)).toNatClampNeg x2) 20 2)).toNatClampNeg x4) 25 ((St.I (St.sI (St.sI (St.sI (St.sI (St.sI (σ) 20 0 s0) 21 ((St.I (St.sI (σ) 20 0 s0) 20 2)).toNatClampNeg x3) 22 ((St.I (St.sI (St.sI (σ) 20 0 s0) 21 ((St.I (St.sI (σ) 20 0 s0) 20 2)).toNatClampNeg x3) 20 2)).toNatClampNeg (St.I (St.sI (St.sI (σ) 20 0 s0) 21 ((St.I (St.sI (σ) 20 0 s0) 20 2)).toNatClampNeg x3) 20 1)) 23 ((St.I (St.sI (St.sI (St.sI (σ) 20 0 s0) 21 ((St.I (St.sI (σ) 20 0 s0) 20 2)).toNatClampNeg x3) 22 ((St.I (St.sI (St.sI (σ) 20 0 s0) 21 ((St.I (St.sI (σ) 20 0 s0) 20 2)).toNatClampNeg x3) 20 2)).toNatClampNeg (St.I (St.sI (St.sI (σ) 20 0 s0) 21 ((St.I (St.sI (σ) 20 0 s0) 20 2)).toNatClampNeg x3) 20 1)) 20 2)).toNatClampNeg x2) 24 ((St.I (St.sI (St.sI (St.sI (St.sI (σ) 20 0 s0) 21 ((St.I (St.sI (σ) 20 0 s0) 20 2)).toNatClampNeg x3) 22 ((St.I (St.sI (St.sI (σ) 20 0 s0) 21 ((St.I (St.sI (σ) 20 0 s0) 20 2)).toNatClampNeg x3) 20 2)).toNatClampNeg (St.I (St.sI (St.sI (σ) 20 0 s0) 21 ((St.I (St.sI (σ) 20 0 s0) 20 2)).toNatClampNeg x3) 20 1)) 23 ((St.I (St.sI (St.sI (St.sI (σ) 20 0 s0) 21 ((St.I (St.sI (σ) 20 0 s0) 20 2)).toNatClampNeg x3) 22 ((St.I (St.sI (St.sI (σ) 20 0 s0) 21 ((St.I (St.sI (σ) 20 0 s0) 20 2)).toNatClampNeg x3) 20 2)).toNatClampNeg (St.I (St.sI (St.sI (σ) 20 0 s0) 21 ((St.I (St.sI (σ) 20 0 s0) 20 2)).toNatClampNeg x3) 20 1)) 20 2)).toNatClampNeg x2) 20 2)).toNatClampNeg x4) 20 2)).toNatClampNeg x5) 20 2)).toNatClampNeg x6) 20 2)).toNatClampNeg x7) 20 2) + (1 : Int32))) 20 1)) (St.sI (St.sI (St.sI (St.sI (St.sI (St.sI (St.sI (St.sI (St.sI (σ) 20 0 s0) 21 ((St.I (St.sI (σ) 20 0 s0) 20 2)).toNatClampNeg x3) 22 ((St.I (St.sI (St.sI (σ) 20 0 s0) 21 ((St.I (St.sI (σ) 20 0 s0) 20 2)).toNatClampNeg x3) 20 2)).toNatClampNeg (St.I (St.sI (St.sI (σ) 20 0 s0) 21 ((St.I (St.sI (σ) 20 0 s0) 20 2)).toNatClampNeg x3) 20 1)) 23 ((St.I (St.sI (St.sI (St.sI (σ) 20 0 s0) 21 ((St.I (St.sI (σ) 20 0 s0) 20 2)).toNatClampNeg x3) 22 ((St.I (St.sI (St.sI (σ) 20 0 s0) 21 ((St.I (St.sI (σ) 20 0 s0) 20 2)).toNatClampNeg x3) 20 2)).toNatClampNeg (St.I (St.sI (St.sI (σ) 20 0 s0) 21 ((St.I (St.sI (σ) 20 0 s0) 20 2)).toNatClampNeg x3) 20 1)) 20 2)).toNatClampNeg x2) 24 ((St.I (St.sI (St.sI (St.sI (St.sI (σ) 20 0 s0) 21 ((St.I (St.sI (σ) 20 0 s0) 20 2)).toNatClampNeg x3) 22 ((St.I (St.sI (St.sI (σ) 20 0 s0) 21 ((St.I (St.sI (σ) 20 0 s0) 20 2)).toNatClampNeg x3) 20 2)).toNatClampNeg (St.I (St.sI (St.sI (σ) 20 0 s0) 21 ((St.I (St.sI (σ) 20 0 s0) 20 2)).toNatClampNeg x3) 20 1)) 23 ((St.I (St.sI (St.sI (St.sI (σ) 20 0 s0) 21 ((St.I (St.sI (σ) 20 0 s0) 20 2)).toNatClampNeg x3) 22 ((St.I (St.sI (St.sI (σ) 20 0 s0) 21 ((St.I (St.sI (σ) 20 0 s0) 20 2)).toNatClampNeg x3) 20 2)).toNatClampNeg (St.I (St.sI (St.sI (σ) 20 0 s0) 21 ((St.I (St.sI (σ) 20 0 s0) 20 2)).toNatClampNeg x3) 20 1)) 20 2)).toNatClampNeg x2) 20 2)).toNatClampNeg x4) 25 ((St.I (St.sI (St.sI (St.sI (St.sI (St.sI (σ) 20 0 s0) 21 ((St.I (St.sI (σ) 20 0 s0) 20 2)).toNatClampNeg x3) 22 ((St.I (St.sI (St.sI (σ) 20 0 s0) 21 ((St.I (St.sI (σ) 20 0 s0) 20 2)).toNatClampNeg x3) 20 2)).toNatClampNeg (St.I (St.sI (St.sI (σ) 20 0 s0) 21 ((St.I (St.sI (σ) 20 0 s0) 20 2)).toNatClampNeg x3) 20 1)) 23 ((St.I (St.sI (St.sI (St.sI (σ) 20 0 s0) 21 ((St.I (St.sI (σ) 20 0 s0) 20 2)).toNatClampNeg x3) 22 ((St.I (St.sI (St.sI (σ) 20 0 s0) 21 ((St.I (St.sI (σ) 20 0 s0) 20 2)).toNatClampNeg x3) 20 2)).toNatClampNeg (St.I (St.sI (St.sI (σ) 20 0 s0) 21 ((St.I (St.sI (σ) 20 0 s0) 20 2)).toNatClampNeg x3) 20 1)) 20 2)).toNatClampNeg x2) 24 ((St.I (St.sI (St.sI (St.sI (St.sI (σ) 20 0 s0) 21 ((St.I (St.sI (σ) 20 0 s0) 20 2)).toNatClampNeg x3) 22 ((St.I (St.sI (St.sI (σ) 20 0 s0) 21 ((St.I (St.sI (σ) 20 0 s0) 20 2)).toNatClampNeg x3) 20 2)).toNatClampNeg (St.I (St.sI (St.sI (σ) 20 0 s0) 21 ((St.I (St.sI (σ) 20 0 s0) 20 2)).toNatClampNeg x3) 20 1)) 23 ((St.I (St.sI (St.sI (St.sI (σ) 20 0 s0) 21 ((St.I (St.sI (σ) 20 0 s0) 20 2)).toNatClampNeg x3) 22 ((St.I (St.sI (St.sI (σ) 20 0 s0) 21 ((St.I (St.sI (σ) 20 0 s0) 20 2)).toNatClampNeg x3) 20 2)).toNatClampNeg (St.I (St.sI (St.sI (σ) 20 0 s0) 21 ((St.I (St.sI (σ) 20 0 s0) 20 2)).toNatClampNeg x3) 20 1)) 20 2)).toNatClampNeg x2) 20 2)).toNatClampNeg x4) 20 2)).toNatClampNeg x5) 26 ((St.I (St.sI (St.sI (St.sI (St.sI (St.sI (St.sI (σ) 20 0 s0) 21 ((St.I (St.sI (σ) 20 0 s0) 20 2)).toNatClampNeg x3) 22 ((St.I (St.sI (St.sI (σ) 20 0 s0) 21 ((St.I (St.sI (σ) 20 0 s0) 20 2)).toNatClampNeg x3) 20 2)).toNatClampNeg (St.I (St.sI (St.sI (σ) 20 0 s0) 21 ((St.I (St.sI (σ) 20 0 s0) 20 2)).toNatClampNeg x3) 20 1)) 23 ((St.I (St.sI (St.sI (St.sI (σ) 20 0 s0) 21 ((St.I (St.sI (σ) 20 0 s0) 20 2)).toNatClampNeg x3) 22 ((St.I (St.sI (St.sI (σ) 20 0 s0) 21 ((St.I (St.sI (σ) 20 0 s0) 20 2)).toNatClampNeg x3) 20 2)).toNatClampNeg (St.I (St.sI (St.sI (σ) 20 0 s0) 21 ((St.I (St.sI (σ) 20 0 s0) 20 2)).toNatClampNeg x3) 20 1)) 20 2)).toNatClampNeg x2) 24 ((St.I (St.sI (St.sI (St.sI (St.sI (σ) 20 0 s0) 21 ((St.I (St.sI (σ) 20 0 s0) 20 2)).toNatClampNeg x3) 22 ((St.I (St.sI (St.sI (σ) 20 0 s0) 21 ((St.I (St.sI (σ) 20 0 s0) 20 2)).toNatClampNeg x3) 20 2)).toNatClampNeg (St.I (St.sI (St.sI (σ) 20 0 s0) 21 ((St.I (St.sI (σ) 20 0 s0) 20 2)).toNatClampNeg x3) 20 1)) 23 ((St.I (St.sI (St.sI (St.sI (σ) 20 0 s0) 21 ((St.I (St.sI (σ) 20 0 s0) 20 2)).toNatClampNeg x3) 22 ((St.I (St.sI (St.sI (σ) 20 0 s0) 21 ((St.I (St.sI (σ) 20 0 s0) 20 2)).toNatClampNeg x3) 20 2)).toNatClampNeg (St.I (St.sI (St.sI (σ) 20 0 s0) 21 ((St.I (St.sI (σ) 20 0 s0) 20 2)).toNatClampNeg x3) 20 1)) 20 2)).toNatClampNeg x2) 20 2)).toNatClampNeg x4) 25 ((St.I (St.sI (St.sI (St.sI (St.sI (St.sI (σ) 20 0 s0) 21 ((St.I (St.sI (σ) 20 0 s0) 20 2)).toNatClampNeg x3) 22 ((St.I (St.sI (St.sI (σ) 20 0 s0) 21 ((St.I (St.sI (σ) 20 0 s0) 20 2)).toNatClampNeg x3) 20 2)).toNatClampNeg (St.I (St.sI (St.sI (σ) 20 0 s0) 21 ((St.I (St.sI (σ) 20 0 s0) 20 2)).toNatClampNeg x3) 20 1)) 23 ((St.I (St.sI (St.sI (St.sI (σ) 20 0 s0) 21 ((St.I (St.sI (σ) 20 0 s0) 20 2)).toNatClampNeg x3) 22 ((St.I (St.sI (St.sI (σ) 20 0 s0) 21 ((St.I (St.sI (σ) 20 0 s0) 20 2)).toNatClampNeg x3) 20 2)).toNatClampNeg (St.I (St.sI (St.sI (σ) 20 0 s0) 21 ((St.I (St.sI (σ) 20 0 s0) 20 2)).toNatClampNeg x3) 20 1)) 20 2)).toNatClampNeg x2) 24 ((St.I (St.sI (St.sI (St.sI (St.sI (σ) 20 0 s0) 21 ((St.I (St.sI (σ) 20 0 s0) 20 2)).toNatClampNeg x3) 22 ((St.I (St.sI (St.sI (σ) 20 0 s0) 21 ((St.I (St.sI (σ) 20 0 s0) 20 2)).toNatClampNeg x3) 20 2)).toNatClampNeg (St.I (St.sI (St.sI (σ) 20 0 s0) 21 ((St.I (St.sI (σ) 20 0 s0) 20 2)).toNatClampNeg x3) 20 1)) 23 ((St.I (St.sI (St.sI (St.sI (σ) 20 0 s0) 21 ((St.I (St.sI (σ) 20 0 s0) 20 2)).toNatClampNeg x3) 22 ((St.I (St.sI (St.sI (σ) 20 0 s0) 21 ((St.I (St.sI (σ) 20 0 s0) 20 2)).toNatClampNeg x3) 20 2)).toNatClampNeg (St.I (St.sI (St.sI (σ) 20 0 s0) 21 ((St.I (St.sI (σ) 20 0 s0) 20 2)).toNatClampNeg x3) 20 1)) 20 2)).toNatClampNeg x2) 20 2)).toNatClampNeg x4) 20 2)).toNatClampNeg x5) 20 2)).toNatClampNeg x6) 27 ((St.I (St.sI (St.sI (St.sI (St.sI (St.sI (St.sI (St.sI (σ) 20 0 s0) 21 ((St.I (St.sI (σ) 20 0 s0) 20 2)).toNatClampNeg x3) 22 ((St.I (St.sI (St.sI (σ) 20 0 s0) 21 ((St.I (St.sI (σ) 20 0 s0) 20 2)).toNatClampNeg x3) 20 2)).toNatClampNeg (St.I (St.sI (St.sI (σ) 20 0 s0) 21 ((St.I (St.sI (σ) 20 0 s0) 20 2)).toNatClampNeg x3) 20 1)) 23 ((St.I (St.sI (St.sI (St.sI (σ) 20 0 s0) 21 ((St.I (St.sI (σ) 20 0 s0) 20 2)).toNatClampNeg x3) 22 ((St.I (St.sI (St.sI (σ) 20 0 s0) 21 ((St.I (St.sI (σ) 20 0 s0) 20 2)).toNatClampNeg x3) 20 2)).toNatClampNeg (St.I (St.sI (St.sI (σ) 20 0 s0) 21 ((St.I (St.sI (σ) 20 0 s0) 20 2)).toNatClampNeg x3) 20 1)) 20 2)).toNatClampNeg x2) 24 ((St.I (St.sI (St.sI (St.sI (St.sI (σ) 20 0 s0) 21 ((St.I (St.sI (σ) 20 0 s0) 20 2)).toNatClampNeg x3) 22 ((St.I (St.sI (St.sI (σ) 20 0 s0) 21 ((St.I (St.sI (σ) 20 0 s0) 20 2)).toNatClampNeg x3) 20 2)).toNatClampNeg (St.I (St.sI (St.sI (σ) 20 0 s0) 21 ((St.I (St.sI (σ) 20 0 s0) 20 2)).toNatClampNeg x3) 20 1)) 23 ((St.I (St.sI (St.sI (St.sI (σ) 20 0 s0) 21 ((St.I (St.sI (σ) 20 0 s0) 20 2)).toNatClampNeg x3) 22 ((St.I (St.sI (St.sI (σ) 20 0 s0) 21 ((St.I (St.sI (σ) 20 0 s0) 20 2)).toNatClampNeg x3) 20 2)).toNatClampNeg (St.I (St.sI (St.sI (σ) 20 0 s0) 21 ((St.I (St.sI (σ) 20 0 s0) 20 2)).toNatClampNeg x3) 20 1)) 20 2)).toNatClampNeg x2) 20 2)).toNatClampNeg x4) 25 ((St.I (St.sI (St.sI (St.sI (St.sI (St.sI (σ) 20 0 s0) 21 ((St.I (St.sI (σ) 20 0 s0) 20 2)).toNatClampNeg x3) 22 ((St.I (St.sI (St.sI (σ) 20 0 s0) 21 ((St.I (St.sI (σ) 20 0 s0) 20 2)).toNatClampNeg x3) 20 2)).toNatClampNeg (St.I (St.sI (St.sI (σ) 20 0 s0) 21 ((St.I (St.sI (σ) 20 0 s0) 20 2)).toNatClampNeg x3) 20 1)) 23 ((St.I (St.sI (St.sI (St.sI (σ) 20 0 s0) 21 ((St.I (St.sI (σ) 20 0 s0) 20 2)).toNatClampNeg x3) 22 ((St.I (St.sI (St.sI (σ) 20 0 s0) 21 ((St.I (St.sI (σ) 20 0 s0) 20 2)).toNatClampNeg x3) 20 2)).toNatClampNeg (St.I (St.sI (St.sI (σ) 20 0 s0) 21 ((St.I (St.sI (σ) 20 0 s0) 20 2)).toNatClampNeg x3) 20 1)) 20 2)).toNatClampNeg x2) 24 ((St.I (St.sI (St.sI (St.sI (St.sI (σ) 20 0 s0) 21 ((St.I (St.sI (σ) 20 0 s0) 20 2)).toNatClampNeg x3) 22 ((St.I (St.sI (St.sI (σ) 20 0 s0) 21 ((St.I (St.sI (σ) 20 0 s0) 20 2)).toNatClampNeg x3) 20 2)).toNatClampNeg (St.I (St.sI (St.sI (σ) 20 0 s0) 21 ((St.I (St.sI (σ) 20 0 s0) 20 2)).toNatClampNeg x3) 20 1)) 23 ((St.I (St.sI (St.sI (St.sI (σ) 20 0 s0) 21 ((St.I (St.sI (σ) 20 0 s0) 20 2)).toNatClampNeg x3) 22 ((St.I (St.sI (St.sI (σ) 20 0 s0) 21 ((St.I (St.sI (σ) 20 0 s0) 20 2)).toNatClampNeg x3) 20 2)).toNatClampNeg (St.I (St.sI (St.sI (σ) 20 0 s0) 21 ((St.I (St.sI (σ) 20 0 s0) 20 2)).toNatClampNeg x3) 20 1)) 20 2)).toNatClampNeg x2) 20 2)).toNatClampNeg x4) 20 2)).toNatClampNeg x5) 26 ((St.I (St.sI (St.sI (St.sI (St.sI (St.sI (St.sI (σ) 20 0 s0) 21 ((St.I (St.sI (σ) 20 0 s0) 20 2)).toNatClampNeg x3) 22 ((St.I (St.sI (St.sI (σ) 20 0 s0) 21 ((St.I (St.sI (σ) 20 0 s0) 20 2)).toNatClampNeg x3) 20 2)).toNatClampNeg (St.I (St.sI (St.sI (σ) 20 0 s0) 21 ((St.I (St.sI (σ) 20 0 s0) 20 2)).toNatClampNeg x3) 20 1)) 23 ((St.I (St.sI (St.sI (St.sI (σ) 20 0 s0) 21 ((St.I (St.sI (σ) 20 0 s0) 20 2)).toNatClampNeg x3) 22 ((St.I (St.sI (St.sI (σ) 20 0 s0) 21 ((St.I (St.sI (σ) 20 0 s0) 20 2)).toNatClampNeg x3) 20 2)).toNatClampNeg (St.I (St.sI (St.sI (σ) 20 0 s0) 21 ((St.I (St.sI (σ) 20 0 s0) 20 2)).toNatClampNeg x3) 20 1)) 20 2)).toNatClampNeg x2) 24 ((St.I (St.sI (St.sI (St.sI (St.sI (σ) 20 0 s0) 21 ((St.I (St.sI (σ) 20 0 s0) 20 2)).toNatClampNeg x3) 22 ((St.I (St.sI (St.sI (σ) 20 0 s0) 21 ((St.I (St.sI (σ) 20 0 s0) 20 2)).toNatClampNeg x3) 20 2)).toNatClampNeg (St.I (St.sI (St.sI (σ) 20 0 s0) 21 ((St.I (St.sI (σ) 20 0 s0) 20 2)).toNatClampNeg x3) 20 1)) 23 ((St.I (St.sI (St.sI (St.sI (σ) 20 0 s0) 21 ((St.I (St.sI (σ) 20 0 s0) 20 2)).toNatClampNeg x3) 22 ((St.I (St.sI (St.sI (σ) 20 0 s0) 21 ((St.I (St.sI (σ) 20 0 s0) 20 2)).toNatClampNeg x3) 20 2)).toNatClampNeg (St.I (St.sI (St.sI (σ) 20 0 s0) 21 ((St.I (St.sI (σ) 20 0 s0) 20 2)).toNatClampNeg x3) 20 1)) 20 2)).toNatClampNeg x2) 20 2)).toNatClampNeg x4) 25 ((St.I (St.sI (St.sI (St.sI (St.sI (St.sI (σ) 20 0 s0) 21 ((St.I (St.sI (σ) 20 0 s0) 20 2)).toNatClampNeg x3) 22 ((St.I (St.sI (St.sI (σ) 20 0 s0) 21 ((St.I (St.sI (σ) 20 0 s0) 20 2)).toNatClampNeg x3) 20 2)).toNatClampNeg (St.I (St.sI (St.sI (σ) 20 0 s0) 21 ((St.I (St.sI (σ) 20 0 s0) 20 2)).toNatClampNeg x3) 20 1)) 23 ((St.I (St.sI (St.sI (St.sI (σ) 20 0 s0) 21 ((St.I (St.sI (σ) 20 0 s0) 20 2)).toNatClampNeg x3) 22 ((St.I (St.sI (St.sI (σ) 20 0 s0) 21 ((St.I (St.sI (σ) 20 0 s0) 20 2)).toNatClampNeg x3) 20 2)).toNatClampNeg (St.I (St.sI (St.sI (σ) 20 0 s0) 21 ((St.I (St.sI (σ) 20 0 s0) 20 2)).toNatClampNeg x3) 20 1)) 20 2)).toNatClampNeg x2) 24 ((St.I (St.sI (St.sI (St.sI (St.sI (σ) 20 0 s0) 21 ((St.I (St.sI (σ) 20 0 s0) 20 2)).toNatClampNeg x3) 22 ((St.I (St.sI (St.sI (σ) 20 0 s0) 21 ((St.I (St.sI (σ) 20 0 s0) 20 2)).toNatClampNeg x3) 20 2)).toNatClampNeg (St.I (St.sI (St.sI (σ) 20 0 s0) 21 ((St.I (St.sI (σ) 20 0 s0) 20 2)).toNatClampNeg x3) 20 1)) 23 ((St.I (St.sI (St.sI (St.sI (σ) 20 0 s0) 21 ((St.I (St.sI (σ) 20 0 s0) 20 2)).toNatClampNeg x3) 22 ((St.I (St.sI (St.sI (σ) 20 0 s0) 21 ((St.I (St.sI (σ) 20 0 s0) 20 2)).toNatClampNeg x3) 20 2)).toNatClampNeg (St.I (St.sI (St.sI (σ) 20 0 s0) 21 ((St.I (St.sI (σ) 20 0 s0) 20 2)).toNatClampNeg x3) 20 1)) 20 2)).toNatClampNeg x2) 20 2)).toNatClampNeg x4) 20 2)).toNatClampNeg x5) 20 2)).toNatClampNeg x6) 20 2)).toNatClampNeg x7) 20 2 ((St.I (St.sI (St.sI (St.sI (St.sI (St.sI (St.sI (St.sI (St.sI (σ) 20 0 s0) 21 ((St.I (St.sI (σ) 20 0 s0) 20 2)).toNatClampNeg x3) 22 ((St.I (St.sI (St.sI (σ) 20 0 s0) 21 ((St.I (St.sI (σ) 20 0 s0) 20 2)).toNatClampNeg x3) 20 2)).toNatClampNeg (St.I (St.sI (St.sI (σ) 20 0 s0) 21 ((St.I (St.sI (σ) 20 0 s0) 20 2)).toNatClampNeg x3) 20 1)) 23 ((St.I (St.sI (St.sI (St.sI (σ) 20 0 s0) 21 ((St.I (St.sI (σ) 20 0 s0) 20 2)).toNatClampNeg x3) 22 ((St.I (St.sI (St.sI (σ) 20 0 s0) 21 ((St.I (St.sI (σ) 20 0 s0) 20 2)).toNatClampNeg x3) 20 2)).toNatClampNeg (St.I (St.sI (St.sI (σ) 20 0 s0) 21 ((St.I (St.sI (σ) 20 0 s0) 20 2)).toNatClampNeg x3) 20 1)) 20 2)).toNatClampNeg x2) 24 ((St.I (St.sI (St.sI (St.sI (St.sI (σ) 20 0 s0) 21 ((St.I (St.sI (σ) 20 0 s0) 20 2)).toNatClampNeg x3) 22 ((St.I (St.sI (St.sI (σ) 20 0 s0) 21 ((St.I (St.sI (σ) 20 0 s0) 20 2)).toNatClampNeg x3) 20 2)).toNatClampNeg (St.I (St.sI (St.sI (σ) 20 0 s0) 21 ((St.I (St.sI (σ) 20 0 s0) 20 2)).toNatClampNeg x3) 20 1)) 23 ((St.I (St.sI (St.sI (St.sI (σ) 20 0 s0) 21 ((St.I (St.sI (σ) 20 0 s0) 20 2)).toNatClampNeg x3) 22 ((St.I (St.sI (St.sI (σ) 20 0 s0) 21 ((St.I (St.sI (σ) 20 0 s0) 20 2)).toNatClampNeg x3) 20 2)).toNatClampNeg (St.I (St.sI (St.sI (σ) 20 0 s0) 21 ((St.I (St.sI (σ) 20 0 s0) 20 2)).toNatClampNeg x3) 20 1)) 20 2)).toNatClampNeg x2) 20 2)).toNatClampNeg x4) 25 ((St.I (St.sI (St.sI (St.sI (St.sI (St.sI (σ) 20 0 s0) 21 ((St.I (St.sI (σ) 20 0 s0) 20 2)).toNatClampNeg x3) 22 ((St.I (St.sI (St.sI (σ) 20 0 s0) 21 ((St.I (St.sI (σ) 20 0 s0) 20 2)).toNatClampNeg x3) 20 2)).toNatClampNeg (St.I (St.sI (St.sI (σ) 20 0 s0) 21 ((St.I (St.sI (σ) 20 0 s0) 20 2)).toNatClampNeg x3) 20 1)) 23 ((St.I (St.sI (St.sI (St.sI (σ) 20 0 s0) 21 ((St.I (St.sI (σ) 20 0 s0) 20 2)).toNatClampNeg x3) 22 ((St.I (St.sI (St.sI (σ) 20 0 s0) 21 ((St.I (St.sI (σ) 20 0 s0) 20 2)).toNatClampNeg x3) 20 2)).toNatClampNeg (St.I (St.sI (St.sI (σ) 20 0 s0) 21 ((St.I (St.sI (σ) 20 0 s0) 20 2)).toNatClampNeg x3) 20 1)) 20 2)).toNatClampNeg x2) 24 ((St.I (St.sI (St.sI (St.sI (St.sI (σ) 20 0 s0) 21 ((St.I (St.sI (σ) 20 0 s0) 20 2)).toNatClampNeg x3) 22 ((St.I (St.sI (St.sI (σ) 20 0 s0) 21 ((St.I (St.sI (σ) 20 0 s0) 20 2)).toNatClampNeg x3) 20 2)).toNatClampNeg (St.I (St.sI (St.sI (σ) 20 0 s0) 21 ((St.I (St.sI (σ) 20 0 s0) 20 2)).toNatClampNeg x3) 20 1)) 23 ((St.I (St.sI (St.sI (St.sI (σ) 20 0 s0) 21 ((St.I (St.sI (σ) 20 0 s0) 20 2)).toNatClampNeg x3) 22 ((St.I (St.sI (St.sI (σ) 20 0 s0) 21 ((St.I (St.sI (σ) 20 0 s0) 20 2)).toNatClampNeg x3) 20 2)).toNatClampNeg (St.I (St.sI (St.sI (σ) 20 0 s0) 21 ((St.I (St.sI (σ) 20 0 s0) 20 2)).toNatClampNeg x3) 20 1)) 20 2)).toNatClampNeg x2) 20 2)).toNatClampNeg x4) 20 2)).toNatClampNeg x5) 26 ((St.I (St.sI (St.sI (St.sI (St.sI (St.sI (St.sI (σ) 20 0 s0) 21 ((St.I (St.sI (σ) 20 0 s0) 20 2)).toNatClampNeg x3) 22 ((St.I (St.sI (St.sI (σ) 20 0 s0) 21 ((St.I (St.sI (σ) 20 0 s0) 20 2)).toNatClampNeg x3) 20 2)).toNatClampNeg (St.I (St.sI (St.sI (σ) 20 0 s0) 21 ((St.I (St.sI (σ) 20 0 s0) 20 2)).toNatClampNeg x3) 20 1)) 23 ((St.I (St.sI (St.sI (St.sI (σ) 20 0 s0) 21 ((St.I (St.sI (σ) 20 0 s0) 20 2)).toNatClampNeg x3) 22 ((St.I (St.sI (St.sI (σ) 20 0 s0) 21 ((St.I (St.sI (σ) 20 0 s0) 20 2)).toNatClampNeg x3) 20 2)).toNatClampNeg (St.I (St.sI (St.sI (σ) 20 0 s0) 21 ((St.I (St.sI (σ) 20 0 s0) 20 2)).toNatClampNeg x3) 20 1)) 20 2)).toNatClampNeg x2) 24 ((St.I (St.sI (St.sI (St.sI (St.sI (σ) 20 0 s0) 21 ((St.I (St.sI (σ) 20 0 s0) 20 2)).toNatClampNeg x3) 22 ((St.I (St.sI (St.sI (σ) 20 0 s0) 21 ((St.I (St.sI (σ) 20 0 s0) 20 2)).toNatClampNeg x3) 20 2)).toNatClampNeg (St.I (St.sI (St.sI (σ) 20 0 s0) 21 ((St.I (St.sI (σ) 20 0 s0) 20 2)).toNatClampNeg x3) 20 1)) 23 ((St.I (St.sI (St.sI (St.sI (σ) 20 0 s0) 21 ((St.I (St.sI (σ) 20 0 s0) 20 2)).toNatClampNeg x3) 22 ((St.I (St.sI (St.sI (σ) 20 0 s0) 21 ((St.I (St.sI (σ) 20 0 s0) 20 2)).toNatClampNeg x3) 20 2)).toNatClampNeg (St.I (St.sI (St.sI (σ) 20 0 s0) 21 ((St.I (St.sI (σ) 20 0 s0) 20 2)).toNatClampNeg x3) 20 1)) 20 2)).toNatClampNeg x2) 20 2)).toNatClampNeg x4) 25 ((St.I (St.sI (St.sI (St.sI (St.sI (St.sI (σ) 20 0 s0) 21 ((St.I (St.sI (σ) 20 0 s0) 20 2)).toNatClampNeg x3) 22 ((St.I (St.sI (St.sI (σ) 20 0 s0) 21 ((St.I (St.sI (σ) 20 0 s0) 20 2)).toNatClampNeg x3) 20 2)).toNatClampNeg (St.I (St.sI (St.sI (σ) 20 0 s0) 21 ((St.I (St.sI (σ) 20 0 s0) 20 2)).toNatClampNeg x3) 20 1)) 23 ((St.I (St.sI (St.sI (St.sI (σ) 20 0 s0) 21 ((St.I (St.sI (σ) 20 0 s0) 20 2)).toNatClampNeg x3) 22 ((St.I (St.sI (St.sI (σ) 20 0 s0) 21 ((St.I (St.sI (σ) 20 0 s0) 20 2)).toNatClampNeg x3) 20 2)).toNatClampNeg (St.I (St.sI (St.sI (σ) 20 0 s0) 21 ((St.I (St.sI (σ) 20 0 s0) 20 2)).toNatClampNeg x3) 20 1)) 20 2)).toNatClampNeg x2) 24 ((St.I (St.sI (St.sI (St.sI (St.sI (σ) 20 0 s0) 21 ((St.I (St.sI (σ) 20 0 s0) 20 2)).toNatClampNeg x3) 22 ((St.I (St.sI (St.sI (σ) 20 0 s0) 21 ((St.I (St.sI (σ) 20 0 s0) 20 2)).toNatClampNeg x3) 20 2)).toNatClampNeg (St.I (St.sI (St.sI (σ) 20 0 s0) 21 ((St.I (St.sI (σ) 20 0 s0) 20 2)).toNatClampNeg x3) 20 1)) 23 ((St.I (St.sI (St.sI (St.sI (σ) 20 0 s0) 21 ((St.I (St.sI (σ) 20 0 s0) 20 2)).toNatClampNeg x3) 22 ((St.I (St.sI (St.sI (σ) 20 0 s0) 21 ((St.I (St.sI (σ) 20 0 s0) 20 2)).toNatClampNeg x3) 20 2)).toNatClampNeg (St.I (St.sI (St.sI (σ) 20 0 s0) 21 ((St.I (St.sI (σ) 20 0 s0) 20 2)).toNatClampNeg x3) 20 1)) 20 2)).toNatClampNeg x2) 20 2)).toNatClampNeg x4) 20 2)).toNatClampNeg x5) 20 2)).toNatClampNeg x6) 27 ((St.I (St.sI (St.sI (St.sI (St.sI (St.sI (St.sI (St.sI (σ) 20 0 s0) 21 ((St.I (St.sI (σ) 20 0 s0) 20 2)).toNatClampNeg x3) 22 ((St.I (St.sI (St.sI (σ) 20 0 s0) 21 ((St.I (St.sI (σ) 20 0 s0) 20 2)).toNatClampNeg x3) 20 2)).toNatClampNeg (St.I (St.sI (St.sI (σ) 20 0 s0) 21 ((St.I (St.sI (σ) 20 0 s0) 20 2)).toNatClampNeg x3) 20 1)) 23 ((St.I (St.sI (St.sI (St.sI (σ) 20 0 s0) 21 ((St.I (St.sI (σ) 20 0 s0) 20 2)).toNatClampNeg x3) 22 ((St.I (St.sI (St.sI (σ) 20 0 s0) 21 ((St.I (St.sI (σ) 20 0 s0) 20 2)).toNatClampNeg x3) 20 2)).toNatClampNeg (St.I (St.sI (St.sI (σ) 20 0 s0) 21 ((St.I (St.sI (σ) 20 0 s0) 20 2)).toNatClampNeg x3) 20 1)) 20 2)).toNatClampNeg x2) 24 ((St.I (St.sI (St.sI (St.sI (St.sI (σ) 20 0 s0) 21 ((St.I (St.sI (σ) 20 0 s0) 20 2)).toNatClampNeg x3) 22 ((St.I (St.sI (St.sI (σ) 20 0 s0) 21 ((St.I (St.sI (σ) 20 0 s0) 20 2)).toNatClampNeg x3) 20 2)).toNatClampNeg (St.I (St.sI (St.sI (σ) 20 0 s0) 21 ((St.I (St.sI (σ) 20 0 s0) 20 2)).toNatClampNeg x3) 20 1)) 23 ((St.I (St.sI (St.sI (St.sI (σ) 20 0 s0) 21 ((St.I (St.sI (σ) 20 0 s0) 20 2)).toNatClampNeg x3) 22 ((St.I (St.sI (St.sI (σ) 20 0 s0) 21 ((St.I (St.sI (σ) 20 0 s0) 20 2)).toNatClampNeg x3) 20 2)).toNatClampNeg (St.I (St.sI (St.sI (σ) 20 0 s0) 21 ((St.I (St.sI (σ) 20 0 s0) 20 2)).toNatClampNeg x3) 20 1)) 20 2)).toNatClampNeg x2) 20 2)).toNatClampNeg x4) 25 ((St.I (St.sI (St.sI (St.sI (St.sI (St.sI (σ) 20 0 s0) 21 ((St.I (St.sI (σ) 20 0 s0) 20 2)).toNatClampNeg x3) 22 ((St.I (St.sI (St.sI (σ) 20 0 s0) 21 ((St.I (St.sI (σ) 20 0 s0) 20 2)).toNatClampNeg x3) 20 2)).toNatClampNeg (St.I (St.sI (St.sI (σ) 20 0 s0) 21 ((St.I (St.sI (σ) 20 0 s0) 20 2)).toNatClampNeg x3) 20 1)) 23 ((St.I (St.sI (St.sI (St.sI (σ) 20 0 s0) 21 ((St.I (St.sI (σ) 20 0 s0) 20 2)).toNatClampNeg x3) 22 ((St.I (St.sI (St.sI (σ) 20 0 s0) 21 ((St.I (St.sI (σ) 20 0 s0) 20 2)).toNatClampNeg x3) 20 2)).toNatClampNeg (St.I (St.sI (St.sI (σ) 20 0 s0) 21 ((St.I (St.sI (σ) 20 0 s0) 20 2)).toNatClampNeg x3) 20 1)) 20 2)).toNatClampNeg x2) 24 ((St.I (St.sI (St.sI (St.sI (St.sI (σ) 20 0 s0) 21 ((St.I (St.sI (σ) 20 0 s0) 20 2)).toNatClampNeg x3) 22 ((St.I (St.sI (St.sI (σ) 20 0 s0) 21 ((St.I (St.sI (σ) 20 0 s0) 20 2)).toNatClampNeg x3) 20 2)).toNatClampNeg (St.I (St.sI (St.sI (σ) 20 0 s0) 21 ((St.I (St.sI (σ) 20 0 s0) 20 2)).toNatClampNeg x3) 20 1)) 23 ((St.I (St.sI (St.sI (St.sI (σ) 20 0 s0) 21 ((St.I (St.sI (σ) 20 0 s0) 20 2)).toNatClampNeg x3) 22 ((St.I (St.sI (St.sI (σ) 20 0 s0) 21 ((St.I (St.sI (σ) 20 0 s0) 20 2)).toNatClampNeg x3) 20 2)).toNatClampNeg (St.I (St.sI (St.sI (σ) 20 0 s0) 21 ((St.I (St.sI (σ) 20 0 s0) 20 2)).toNatClampNeg x3) 20 1)) 20 2)).toNatClampNeg x2) 20 2)).toNatClampNeg x4) 20 2)).toNatClampNeg x5) 26 ((St.I (St.sI (St.sI (St.sI (St.sI (St.sI (St.sI (σ) 20 0 s0) 21 ((St.I (St.sI (σ) 20 0 s0) 20 2)).toNatClampNeg x3) 22 ((St.I (St.sI (St.sI (σ) 20 0 s0) 21 ((St.I (St.sI (σ) 20 0 s0) 20 2)).toNatClampNeg x3) 20 2)).toNatClampNeg (St.I (St.sI (St.sI (σ) 20 0 s0) 21 ((St.I (St.sI (σ) 20 0 s0) 20 2)).toNatClampNeg x3) 20 1)) 23 ((St.I (St.sI (St.sI (St.sI (σ) 20 0 s0) 21 ((St.I (St.sI (σ) 20 0 s0) 20 2)).toNatClampNeg x3) 22 ((St.I (St.sI (St.sI (σ) 20 0 s0) 21 ((St.I (St.sI (σ) 20 0 s0) 20 2)).toNatClampNeg x3) 20 2)).toNatClampNeg (St.I (St.sI (St.sI (σ) 20 0 s0) 21 ((St.I (St.sI (σ) 20 0 s0) 20 2)).toNatClampNeg x3) 20 1)) 20 2)).toNatClampNeg x2) 24 ((St.I (St.sI (St.sI (St.sI (St.sI (σ) 20 0 s0) 21 ((St.I (St.sI (σ) 20 0 s0) 20 2)).toNatClampNeg x3) 22 ((St.I (St.sI (St.sI (σ) 20 0 s0) 21 ((St.I (St.sI (σ) 20 0 s0) 20 2)).toNatClampNeg x3) 20 2)).toNatClampNeg (St.I (St.sI (St.sI (σ) 20 0 s0) 21 ((St.I (St.sI (σ) 20 0 s0) 20 2)).toNatClampNeg x3) 20 1)) 23 ((St.I (St.sI (St.sI (St.sI (σ) 20 0 s0) 21 ((St.I (St.sI (σ) 20 0 s0) 20 2)).toNatClampNeg x3) 22 ((St.I (St.sI (St.sI (σ) 20 0 s0) 21 ((St.I (St.sI (σ) 20 0 s0) 20 2)).toNatClampNeg x3) 20 2)).toNatClampNeg (St.I (St.sI (St.sI (σ) 20 0 s0) 21 ((St.I (St.sI (σ) 20 0 s0) 20 2)).toNatClampNeg x3) 20 1)) 20 2)).toNatClampNeg x2) 20 2)).toNatClampNeg x4) 25 ((St.I (St.sI (St.sI (St.sI (St.sI (St.sI (σ) 20 0 s0) 21 ((St.I (St.sI (σ) 20 0 s0) 20 2)).toNatClampNeg x3) 22 ((St.I (St.sI (St.sI (σ) 20 0 s0) 21 ((St.I (St.sI (σ) 20 0 s0) 20 2)).toNatClampNeg x3) 20 2)).toNatClampNeg (St.I (St.sI (St.sI (σ) 20 0 s0) 21 ((St.I (St.sI (σ) 20 0 s0) 20 2)).toNatClampNeg x3) 20 1)) 23 ((St.I (St.sI (St.sI (St.sI (σ) 20 0 s0) 21 ((St.I (St.sI (σ) 20 0 s0) 20 2)).toNatClampNeg x3) 22 ((St.I (St.sI (St.sI (σ) 20 0 s0) 21 ((St.I (St.sI (σ) 20 0 s0) 20 2)).toNatClampNeg x3) 20 2)).toNatClampNeg (St.I (St.sI (St.sI (σ) 20 0 s0) 21 ((St.I (St.sI (σ) 20 0 s0) 20 2)).toNatClampNeg x3) 20 1)) 20 2)).toNatClampNeg x2) 24 ((St.I (St.sI (St.sI (St.sI (St.sI (σ) 20 0 s0) 21 ((St.I (St.sI (σ) 20 0 s0) 20 2)).toNatClampNeg x3) 22 ((St.I (St.sI (St.sI (σ) 20 0 s0) 21 ((St.I (St.sI (σ) 20 0 s0) 20 2)).toNatClampNeg x3) 20 2)).toNatClampNeg (St.I (St.sI (St.sI (σ) 20 0 s0) 21 ((St.I (St.sI (σ) 20 0 s0) 20 2)).toNatClampNeg x3) 20 1)) 23 ((St.I (St.sI (St.sI (St.sI (σ) 20 0 s0) 21 ((St.I (St.sI (σ) 20 0 s0) 20 2)).toNatClampNeg x3) 22 ((St.I (St.sI (St.sI (σ) 20 0 s0) 21 ((St.I (St.sI (σ) 20 0 s0) 20 2)).toNatClampNeg x3) 20 2)).toNatClampNeg (St.I (St.sI (St.sI (σ) 20 0 s0) 21 ((St.I (St.sI (σ) 20 0 s0) 20 2)).toNatClampNeg x3) 20 1)) 20 2)).toNatClampNeg x2) 20 2)).toNatClampNeg x4) 20 2)).toNatClampNeg x5) 20 2)).toNatClampNeg x6) 20 2)).toNatClampNeg x7) 20 2) + (1 : Int32))) (fun σ11 => post ((St.I (σ11) 20 2) - (1 : Int32)) (σ11)) thr)))))))) ∧ (¬ (St.I (St.sI (σ) 20 0 s0) 20 0) ≤ 0 → post (0 : Int32) (St.sI (σ) 20 0 s0)))
def wp_M_file_17 (Γ : Ev)  (post : Int32 → St → Prop) (thr : String → St → Prop) (x2 : Int32) (x3 : Int32) (x4 : Int32) (x5 : Int32) (x6 : Int32) (x7 : Int32) (σ : St) : Prop := wp_M_file_35 Γ  post thr (x2) (x3) (x4) (x5) (x6) (x7) ((1 : Int32)) (σ)
def wp_M_file (Γ : Ev) (x1 : Int32) (x2 : Int32) (x3 : Int32) (x4 : Int32) (x5 : Int32) (x6 : Int32) (x7 : Int32) (σ : St) (post : Int32 → St → Prop) (thr : String → St → Prop) : Prop := ((¬ x1 = 0 → wp_M_file_17 Γ  post thr (x2) (x3) (x4) (x5) (x6) (x7) (σ)) ∧ (x1 = 0 → ((x2 < 0 → wp_M_file_17 Γ  post thr (x2) (x3) (x4) (x5) (x6) (x7) (σ)) ∧ (¬ x2 < 0 → ((x2 ≤ (St.I (σ) 20 1) → ((¬ (St.I (σ) 20 2) = (40 : Int32) → wp_M_file_35 Γ  post thr (x2) (x3) (x4) (x5) (x6) (x7) ((0 : Int32)) (σ)) ∧ ((St.I (σ) 20 2) = (40 : Int32) → wp_M_file_35 Γ  post thr (x2) (x3) (x4) (x5) (x6) (x7) ((2 : Int32)) (σ)))) ∧ (¬ x2 ≤ (St.I (σ) 20 1) → wp_M_file_17 Γ  post thr (x2) (x3) (x4) (x5) (x6) (x7) (σ)))))))
abbrev rm_M_file : Room := { frames := 5, cells := 0, slots := 0, locals := 133 }
set_option maxRecDepth 100000 in
set_option maxHeartbeats 4000000 in
theorem b_M_file_35 {p : Program} {l : Launch} {e : Env} {s : State} {m : MethodId} {args : Array Value} {below : List Frame} {meth : Method} {c : Code} {D : va_G} {AC : Nat → ClassId} {lo : Nat} {Γ : Ev} {post : Int32 → St → Prop} {thr : String → St → Prop} (hX : Cx p s m args meth c y_M_file b_M_file 8 (some .int) [] D AC lo)   (x2 : Int32) (x3 : Int32) (x4 : Int32) (x5 : Int32) (x6 : Int32) (x7 : Int32) (s0 : Int32) (σ : St) (h : wp_M_file_35 Γ  post thr x2 x3 x4 x5 x6 x7 s0 σ) : G p l e rm_M_file s m args below meth c 8 D lo (pI AC Γ post) (tX AC Γ thr) (wσ AC Γ (σ)) 0 0 35 [(0, .ref (Γ.ad 324)), (2, .int (x2)), (3, .int (x3)), (4, .int (x4)), (5, .int (x5)), (6, .int (x6)), (7, .int (x7))] [.int (s0), .ref (Γ.ad 324)] := by
  unfold wp_M_file_35 at h
  refine g_putf (i := 324) (kf := 0) (ty := .int) hX (lt_c (by decide)) rfl (lay_MO (AC := AC) (Γ := Γ)) rfl in_M ty_M nm_M (by decide) t_805 (Or.inl rfl) rfl (by decide +kernel) rfl rfl (by show _ < List.length _; simp) d_M_file_35 (wσ_mthrown _) ?_
  refine g_aload_n hX d_M_file_38 rfl 0 rfl ?_
  refine g_getf (i := 324) (kf := 0) hX (lt_c (by decide)) rfl (lay_MO (AC := AC) (Γ := Γ)) rfl in_M (by decide) t_805 (Or.inl rfl) rfl d_M_file_39 ?_
  refine g_if_le (tgt := 47) hX d_M_file_42 (by decide) (fun q2 => ?_) (fun q2 => ?_)
  · have h := h.1 q2
    refine g_aload_n hX d_M_file_47 rfl 0 rfl ?_
    refine g_getf (i := 324) (kf := 3) hX (lt_c (by decide)) rfl (lay_MO (AC := AC) (Γ := Γ)) rfl in_M (by decide) t_808 (Or.inl rfl) rfl d_M_file_48 ?_
    refine g_aload_n hX d_M_file_51 rfl 0 rfl ?_
    refine g_getf (i := 324) (kf := 2) hX (lt_c (by decide)) rfl (lay_MO (AC := AC) (Γ := Γ)) rfl in_M (by decide) t_807 (Or.inl rfl) rfl d_M_file_52 ?_
    refine g_iload_n hX d_M_file_55 rfl 2 rfl ?_
    obtain ⟨q3, h⟩ := h
    refine g_iast (i := 325) hX (lt_c (by decide)) rfl (lay_m0 (AC := AC) (Γ := Γ)) q3 d_M_file_56 (wσ_m_kind (upd (St.I (St.sI (σ) 20 0 s0) 21) ((St.I (St.sI (σ) 20 0 s0) 20 2)).toNatClampNeg x3)) ?_
    refine g_aload_n hX d_M_file_57 rfl 0 rfl ?_
    refine g_getf (i := 324) (kf := 4) hX (lt_c (by decide)) rfl (lay_MO (AC := AC) (Γ := Γ)) rfl in_M (by decide) t_809 (Or.inl rfl) rfl d_M_file_58 ?_
    refine g_aload_n hX d_M_file_61 rfl 0 rfl ?_
    refine g_getf (i := 324) (kf := 2) hX (lt_c (by decide)) rfl (lay_MO (AC := AC) (Γ := Γ)) rfl in_M (by decide) t_807 (Or.inl rfl) rfl d_M_file_62 ?_
    refine g_aload_n hX d_M_file_65 rfl 0 rfl ?_
    refine g_getf (i := 324) (kf := 1) hX (lt_c (by decide)) rfl (lay_MO (AC := AC) (Γ := Γ)) rfl in_M (by decide) t_806 (Or.inl rfl) rfl d_M_file_66 ?_
    obtain ⟨q4, h⟩ := h
    refine g_iast (i := 326) hX (lt_c (by decide)) rfl (lay_m1 (AC := AC) (Γ := Γ)) q4 d_M_file_69 (wσ_m_record (upd (St.I (St.sI (St.sI (σ) 20 0 s0) 21 ((St.I (St.sI (σ) 20 0 s0) 20 2)).toNatClampNeg x3) 22) ((St.I (St.sI (St.sI (σ) 20 0 s0) 21 ((St.I (St.sI (σ) 20 0 s0) 20 2)).toNatClampNeg x3) 20 2)).toNatClampNeg (St.I (St.sI (St.sI (σ) 20 0 s0) 21 ((St.I (St.sI (σ) 20 0 s0) 20 2)).toNatClampNeg x3) 20 1))) ?_
    refine g_aload_n hX d_M_file_70 rfl 0 rfl ?_
    refine g_getf (i := 324) (kf := 5) hX (lt_c (by decide)) rfl (lay_MO (AC := AC) (Γ := Γ)) rfl in_M (by decide) t_810 (Or.inl rfl) rfl d_M_file_71 ?_
    refine g_aload_n hX d_M_file_74 rfl 0 rfl ?_
    refine g_getf (i := 324) (kf := 2) hX (lt_c (by decide)) rfl (lay_MO (AC := AC) (Γ := Γ)) rfl in_M (by decide) t_807 (Or.inl rfl) rfl d_M_file_75 ?_
    refine g_iload_n hX d_M_file_78 rfl 1 rfl ?_
    obtain ⟨q5, h⟩ := h
    refine g_iast (i := 327) hX (lt_c (by decide)) rfl (lay_m2 (AC := AC) (Γ := Γ)) q5 d_M_file_79 (wσ_m_fact (upd (St.I (St.sI (St.sI (St.sI (σ) 20 0 s0) 21 ((St.I (St.sI (σ) 20 0 s0) 20 2)).toNatClampNeg x3) 22 ((St.I (St.sI (St.sI (σ) 20 0 s0) 21 ((St.I (St.sI (σ) 20 0 s0) 20 2)).toNatClampNeg x3) 20 2)).toNatClampNeg (St.I (St.sI (St.sI (σ) 20 0 s0) 21 ((St.I (St.sI (σ) 20 0 s0) 20 2)).toNatClampNeg x3) 20 1)) 23) ((St.I (St.sI (St.sI (St.sI (σ) 20 0 s0) 21 ((St.I (St.sI (σ) 20 0 s0) 20 2)).toNatClampNeg x3) 22 ((St.I (St.sI (St.sI (σ) 20 0 s0) 21 ((St.I (St.sI (σ) 20 0 s0) 20 2)).toNatClampNeg x3) 20 2)).toNatClampNeg (St.I (St.sI (St.sI (σ) 20 0 s0) 21 ((St.I (St.sI (σ) 20 0 s0) 20 2)).toNatClampNeg x3) 20 1)) 20 2)).toNatClampNeg x2)) ?_
    refine g_aload_n hX d_M_file_80 rfl 0 rfl ?_
    refine g_getf (i := 324) (kf := 6) hX (lt_c (by decide)) rfl (lay_MO (AC := AC) (Γ := Γ)) rfl in_M (by decide) t_811 (Or.inl rfl) rfl d_M_file_81 ?_
    refine g_aload_n hX d_M_file_84 rfl 0 rfl ?_
    refine g_getf (i := 324) (kf := 2) hX (lt_c (by decide)) rfl (lay_MO (AC := AC) (Γ := Γ)) rfl in_M (by decide) t_807 (Or.inl rfl) rfl d_M_file_85 ?_
    refine g_iload hX d_M_file_88 3 rfl ?_
    obtain ⟨q6, h⟩ := h
    refine g_iast (i := 328) hX (lt_c (by decide)) rfl (lay_m3 (AC := AC) (Γ := Γ)) q6 d_M_file_90 (wσ_m_first (upd (St.I (St.sI (St.sI (St.sI (St.sI (σ) 20 0 s0) 21 ((St.I (St.sI (σ) 20 0 s0) 20 2)).toNatClampNeg x3) 22 ((St.I (St.sI (St.sI (σ) 20 0 s0) 21 ((St.I (St.sI (σ) 20 0 s0) 20 2)).toNatClampNeg x3) 20 2)).toNatClampNeg (St.I (St.sI (St.sI (σ) 20 0 s0) 21 ((St.I (St.sI (σ) 20 0 s0) 20 2)).toNatClampNeg x3) 20 1)) 23 ((St.I (St.sI (St.sI (St.sI (σ) 20 0 s0) 21 ((St.I (St.sI (σ) 20 0 s0) 20 2)).toNatClampNeg x3) 22 ((St.I (St.sI (St.sI (σ) 20 0 s0) 21 ((St.I (St.sI (σ) 20 0 s0) 20 2)).toNatClampNeg x3) 20 2)).toNatClampNeg (St.I (St.sI (St.sI (σ) 20 0 s0) 21 ((St.I (St.sI (σ) 20 0 s0) 20 2)).toNatClampNeg x3) 20 1)) 20 2)).toNatClampNeg x2) 24) ((St.I (St.sI (St.sI (St.sI (St.sI (σ) 20 0 s0) 21 ((St.I (St.sI (σ) 20 0 s0) 20 2)).toNatClampNeg x3) 22 ((St.I (St.sI (St.sI (σ) 20 0 s0) 21 ((St.I (St.sI (σ) 20 0 s0) 20 2)).toNatClampNeg x3) 20 2)).toNatClampNeg (St.I (St.sI (St.sI (σ) 20 0 s0) 21 ((St.I (St.sI (σ) 20 0 s0) 20 2)).toNatClampNeg x3) 20 1)) 23 ((St.I (St.sI (St.sI (St.sI (σ) 20 0 s0) 21 ((St.I (St.sI (σ) 20 0 s0) 20 2)).toNatClampNeg x3) 22 ((St.I (St.sI (St.sI (σ) 20 0 s0) 21 ((St.I (St.sI (σ) 20 0 s0) 20 2)).toNatClampNeg x3) 20 2)).toNatClampNeg (St.I (St.sI (St.sI (σ) 20 0 s0) 21 ((St.I (St.sI (σ) 20 0 s0) 20 2)).toNatClampNeg x3) 20 1)) 20 2)).toNatClampNeg x2) 20 2)).toNatClampNeg x4)) ?_
    refine g_aload_n hX d_M_file_91 rfl 0 rfl ?_
    refine g_getf (i := 324) (kf := 7) hX (lt_c (by decide)) rfl (lay_MO (AC := AC) (Γ := Γ)) rfl in_M (by decide) t_812 (Or.inl rfl) rfl d_M_file_92 ?_
    refine g_aload_n hX d_M_file_95 rfl 0 rfl ?_
    refine g_getf (i := 324) (kf := 2) hX (lt_c (by decide)) rfl (lay_MO (AC := AC) (Γ := Γ)) rfl in_M (by decide) t_807 (Or.inl rfl) rfl d_M_file_96 ?_
    refine g_iload hX d_M_file_99 4 rfl ?_
    obtain ⟨q7, h⟩ := h
    refine g_iast (i := 329) hX (lt_c (by decide)) rfl (lay_m4 (AC := AC) (Γ := Γ)) q7 d_M_file_101 (wσ_m_second (upd (St.I (St.sI (St.sI (St.sI (St.sI (St.sI (σ) 20 0 s0) 21 ((St.I (St.sI (σ) 20 0 s0) 20 2)).toNatClampNeg x3) 22 ((St.I (St.sI (St.sI (σ) 20 0 s0) 21 ((St.I (St.sI (σ) 20 0 s0) 20 2)).toNatClampNeg x3) 20 2)).toNatClampNeg (St.I (St.sI (St.sI (σ) 20 0 s0) 21 ((St.I (St.sI (σ) 20 0 s0) 20 2)).toNatClampNeg x3) 20 1)) 23 ((St.I (St.sI (St.sI (St.sI (σ) 20 0 s0) 21 ((St.I (St.sI (σ) 20 0 s0) 20 2)).toNatClampNeg x3) 22 ((St.I (St.sI (St.sI (σ) 20 0 s0) 21 ((St.I (St.sI (σ) 20 0 s0) 20 2)).toNatClampNeg x3) 20 2)).toNatClampNeg (St.I (St.sI (St.sI (σ) 20 0 s0) 21 ((St.I (St.sI (σ) 20 0 s0) 20 2)).toNatClampNeg x3) 20 1)) 20 2)).toNatClampNeg x2) 24 ((St.I (St.sI (St.sI (St.sI (St.sI (σ) 20 0 s0) 21 ((St.I (St.sI (σ) 20 0 s0) 20 2)).toNatClampNeg x3) 22 ((St.I (St.sI (St.sI (σ) 20 0 s0) 21 ((St.I (St.sI (σ) 20 0 s0) 20 2)).toNatClampNeg x3) 20 2)).toNatClampNeg (St.I (St.sI (St.sI (σ) 20 0 s0) 21 ((St.I (St.sI (σ) 20 0 s0) 20 2)).toNatClampNeg x3) 20 1)) 23 ((St.I (St.sI (St.sI (St.sI (σ) 20 0 s0) 21 ((St.I (St.sI (σ) 20 0 s0) 20 2)).toNatClampNeg x3) 22 ((St.I (St.sI (St.sI (σ) 20 0 s0) 21 ((St.I (St.sI (σ) 20 0 s0) 20 2)).toNatClampNeg x3) 20 2)).toNatClampNeg (St.I (St.sI (St.sI (σ) 20 0 s0) 21 ((St.I (St.sI (σ) 20 0 s0) 20 2)).toNatClampNeg x3) 20 1)) 20 2)).toNatClampNeg x2) 20 2)).toNatClampNeg x4) 25) ((St.I (St.sI (St.sI (St.sI (St.sI (St.sI (σ) 20 0 s0) 21 ((St.I (St.sI (σ) 20 0 s0) 20 2)).toNatClampNeg x3) 22 ((St.I (St.sI (St.sI (σ) 20 0 s0) 21 ((St.I (St.sI (σ) 20 0 s0) 20 2)).toNatClampNeg x3) 20 2)).toNatClampNeg (St.I (St.sI (St.sI (σ) 20 0 s0) 21 ((St.I (St.sI (σ) 20 0 s0) 20 2)).toNatClampNeg x3) 20 1)) 23 ((St.I (St.sI (St.sI (St.sI (σ) 20 0 s0) 21 ((St.I (St.sI (σ) 20 0 s0) 20 2)).toNatClampNeg x3) 22 ((St.I (St.sI (St.sI (σ) 20 0 s0) 21 ((St.I (St.sI (σ) 20 0 s0) 20 2)).toNatClampNeg x3) 20 2)).toNatClampNeg (St.I (St.sI (St.sI (σ) 20 0 s0) 21 ((St.I (St.sI (σ) 20 0 s0) 20 2)).toNatClampNeg x3) 20 1)) 20 2)).toNatClampNeg x2) 24 ((St.I (St.sI (St.sI (St.sI (St.sI (σ) 20 0 s0) 21 ((St.I (St.sI (σ) 20 0 s0) 20 2)).toNatClampNeg x3) 22 ((St.I (St.sI (St.sI (σ) 20 0 s0) 21 ((St.I (St.sI (σ) 20 0 s0) 20 2)).toNatClampNeg x3) 20 2)).toNatClampNeg (St.I (St.sI (St.sI (σ) 20 0 s0) 21 ((St.I (St.sI (σ) 20 0 s0) 20 2)).toNatClampNeg x3) 20 1)) 23 ((St.I (St.sI (St.sI (St.sI (σ) 20 0 s0) 21 ((St.I (St.sI (σ) 20 0 s0) 20 2)).toNatClampNeg x3) 22 ((St.I (St.sI (St.sI (σ) 20 0 s0) 21 ((St.I (St.sI (σ) 20 0 s0) 20 2)).toNatClampNeg x3) 20 2)).toNatClampNeg (St.I (St.sI (St.sI (σ) 20 0 s0) 21 ((St.I (St.sI (σ) 20 0 s0) 20 2)).toNatClampNeg x3) 20 1)) 20 2)).toNatClampNeg x2) 20 2)).toNatClampNeg x4) 20 2)).toNatClampNeg x5)) ?_
    refine g_aload_n hX d_M_file_102 rfl 0 rfl ?_
    refine g_getf (i := 324) (kf := 8) hX (lt_c (by decide)) rfl (lay_MO (AC := AC) (Γ := Γ)) rfl in_M (by decide) t_813 (Or.inl rfl) rfl d_M_file_103 ?_
    refine g_aload_n hX d_M_file_106 rfl 0 rfl ?_
    refine g_getf (i := 324) (kf := 2) hX (lt_c (by decide)) rfl (lay_MO (AC := AC) (Γ := Γ)) rfl in_M (by decide) t_807 (Or.inl rfl) rfl d_M_file_107 ?_
    refine g_iload hX d_M_file_110 5 rfl ?_
    obtain ⟨q8, h⟩ := h
    refine g_iast (i := 330) hX (lt_c (by decide)) rfl (lay_m5 (AC := AC) (Γ := Γ)) q8 d_M_file_112 (wσ_m_third (upd (St.I (St.sI (St.sI (St.sI (St.sI (St.sI (St.sI (σ) 20 0 s0) 21 ((St.I (St.sI (σ) 20 0 s0) 20 2)).toNatClampNeg x3) 22 ((St.I (St.sI (St.sI (σ) 20 0 s0) 21 ((St.I (St.sI (σ) 20 0 s0) 20 2)).toNatClampNeg x3) 20 2)).toNatClampNeg (St.I (St.sI (St.sI (σ) 20 0 s0) 21 ((St.I (St.sI (σ) 20 0 s0) 20 2)).toNatClampNeg x3) 20 1)) 23 ((St.I (St.sI (St.sI (St.sI (σ) 20 0 s0) 21 ((St.I (St.sI (σ) 20 0 s0) 20 2)).toNatClampNeg x3) 22 ((St.I (St.sI (St.sI (σ) 20 0 s0) 21 ((St.I (St.sI (σ) 20 0 s0) 20 2)).toNatClampNeg x3) 20 2)).toNatClampNeg (St.I (St.sI (St.sI (σ) 20 0 s0) 21 ((St.I (St.sI (σ) 20 0 s0) 20 2)).toNatClampNeg x3) 20 1)) 20 2)).toNatClampNeg x2) 24 ((St.I (St.sI (St.sI (St.sI (St.sI (σ) 20 0 s0) 21 ((St.I (St.sI (σ) 20 0 s0) 20 2)).toNatClampNeg x3) 22 ((St.I (St.sI (St.sI (σ) 20 0 s0) 21 ((St.I (St.sI (σ) 20 0 s0) 20 2)).toNatClampNeg x3) 20 2)).toNatClampNeg (St.I (St.sI (St.sI (σ) 20 0 s0) 21 ((St.I (St.sI (σ) 20 0 s0) 20 2)).toNatClampNeg x3) 20 1)) 23 ((St.I (St.sI (St.sI (St.sI (σ) 20 0 s0) 21 ((St.I (St.sI (σ) 20 0 s0) 20 2)).toNatClampNeg x3) 22 ((St.I (St.sI (St.sI (σ) 20 0 s0) 21 ((St.I (St.sI (σ) 20 0 s0) 20 2)).toNatClampNeg x3) 20 2)).toNatClampNeg (St.I (St.sI (St.sI (σ) 20 0 s0) 21 ((St.I (St.sI (σ) 20 0 s0) 20 2)).toNatClampNeg x3) 20 1)) 20 2)).toNatClampNeg x2) 20 2)).toNatClampNeg x4) 25 ((St.I (St.sI (St.sI (St.sI (St.sI (St.sI (σ) 20 0 s0) 21 ((St.I (St.sI (σ) 20 0 s0) 20 2)).toNatClampNeg x3) 22 ((St.I (St.sI (St.sI (σ) 20 0 s0) 21 ((St.I (St.sI (σ) 20 0 s0) 20 2)).toNatClampNeg x3) 20 2)).toNatClampNeg (St.I (St.sI (St.sI (σ) 20 0 s0) 21 ((St.I (St.sI (σ) 20 0 s0) 20 2)).toNatClampNeg x3) 20 1)) 23 ((St.I (St.sI (St.sI (St.sI (σ) 20 0 s0) 21 ((St.I (St.sI (σ) 20 0 s0) 20 2)).toNatClampNeg x3) 22 ((St.I (St.sI (St.sI (σ) 20 0 s0) 21 ((St.I (St.sI (σ) 20 0 s0) 20 2)).toNatClampNeg x3) 20 2)).toNatClampNeg (St.I (St.sI (St.sI (σ) 20 0 s0) 21 ((St.I (St.sI (σ) 20 0 s0) 20 2)).toNatClampNeg x3) 20 1)) 20 2)).toNatClampNeg x2) 24 ((St.I (St.sI (St.sI (St.sI (St.sI (σ) 20 0 s0) 21 ((St.I (St.sI (σ) 20 0 s0) 20 2)).toNatClampNeg x3) 22 ((St.I (St.sI (St.sI (σ) 20 0 s0) 21 ((St.I (St.sI (σ) 20 0 s0) 20 2)).toNatClampNeg x3) 20 2)).toNatClampNeg (St.I (St.sI (St.sI (σ) 20 0 s0) 21 ((St.I (St.sI (σ) 20 0 s0) 20 2)).toNatClampNeg x3) 20 1)) 23 ((St.I (St.sI (St.sI (St.sI (σ) 20 0 s0) 21 ((St.I (St.sI (σ) 20 0 s0) 20 2)).toNatClampNeg x3) 22 ((St.I (St.sI (St.sI (σ) 20 0 s0) 21 ((St.I (St.sI (σ) 20 0 s0) 20 2)).toNatClampNeg x3) 20 2)).toNatClampNeg (St.I (St.sI (St.sI (σ) 20 0 s0) 21 ((St.I (St.sI (σ) 20 0 s0) 20 2)).toNatClampNeg x3) 20 1)) 20 2)).toNatClampNeg x2) 20 2)).toNatClampNeg x4) 20 2)).toNatClampNeg x5) 26) ((St.I (St.sI (St.sI (St.sI (St.sI (St.sI (St.sI (σ) 20 0 s0) 21 ((St.I (St.sI (σ) 20 0 s0) 20 2)).toNatClampNeg x3) 22 ((St.I (St.sI (St.sI (σ) 20 0 s0) 21 ((St.I (St.sI (σ) 20 0 s0) 20 2)).toNatClampNeg x3) 20 2)).toNatClampNeg (St.I (St.sI (St.sI (σ) 20 0 s0) 21 ((St.I (St.sI (σ) 20 0 s0) 20 2)).toNatClampNeg x3) 20 1)) 23 ((St.I (St.sI (St.sI (St.sI (σ) 20 0 s0) 21 ((St.I (St.sI (σ) 20 0 s0) 20 2)).toNatClampNeg x3) 22 ((St.I (St.sI (St.sI (σ) 20 0 s0) 21 ((St.I (St.sI (σ) 20 0 s0) 20 2)).toNatClampNeg x3) 20 2)).toNatClampNeg (St.I (St.sI (St.sI (σ) 20 0 s0) 21 ((St.I (St.sI (σ) 20 0 s0) 20 2)).toNatClampNeg x3) 20 1)) 20 2)).toNatClampNeg x2) 24 ((St.I (St.sI (St.sI (St.sI (St.sI (σ) 20 0 s0) 21 ((St.I (St.sI (σ) 20 0 s0) 20 2)).toNatClampNeg x3) 22 ((St.I (St.sI (St.sI (σ) 20 0 s0) 21 ((St.I (St.sI (σ) 20 0 s0) 20 2)).toNatClampNeg x3) 20 2)).toNatClampNeg (St.I (St.sI (St.sI (σ) 20 0 s0) 21 ((St.I (St.sI (σ) 20 0 s0) 20 2)).toNatClampNeg x3) 20 1)) 23 ((St.I (St.sI (St.sI (St.sI (σ) 20 0 s0) 21 ((St.I (St.sI (σ) 20 0 s0) 20 2)).toNatClampNeg x3) 22 ((St.I (St.sI (St.sI (σ) 20 0 s0) 21 ((St.I (St.sI (σ) 20 0 s0) 20 2)).toNatClampNeg x3) 20 2)).toNatClampNeg (St.I (St.sI (St.sI (σ) 20 0 s0) 21 ((St.I (St.sI (σ) 20 0 s0) 20 2)).toNatClampNeg x3) 20 1)) 20 2)).toNatClampNeg x2) 20 2)).toNatClampNeg x4) 25 ((St.I (St.sI (St.sI (St.sI (St.sI (St.sI (σ) 20 0 s0) 21 ((St.I (St.sI (σ) 20 0 s0) 20 2)).toNatClampNeg x3) 22 ((St.I (St.sI (St.sI (σ) 20 0 s0) 21 ((St.I (St.sI (σ) 20 0 s0) 20 2)).toNatClampNeg x3) 20 2)).toNatClampNeg (St.I (St.sI (St.sI (σ) 20 0 s0) 21 ((St.I (St.sI (σ) 20 0 s0) 20 2)).toNatClampNeg x3) 20 1)) 23 ((St.I (St.sI (St.sI (St.sI (σ) 20 0 s0) 21 ((St.I (St.sI (σ) 20 0 s0) 20 2)).toNatClampNeg x3) 22 ((St.I (St.sI (St.sI (σ) 20 0 s0) 21 ((St.I (St.sI (σ) 20 0 s0) 20 2)).toNatClampNeg x3) 20 2)).toNatClampNeg (St.I (St.sI (St.sI (σ) 20 0 s0) 21 ((St.I (St.sI (σ) 20 0 s0) 20 2)).toNatClampNeg x3) 20 1)) 20 2)).toNatClampNeg x2) 24 ((St.I (St.sI (St.sI (St.sI (St.sI (σ) 20 0 s0) 21 ((St.I (St.sI (σ) 20 0 s0) 20 2)).toNatClampNeg x3) 22 ((St.I (St.sI (St.sI (σ) 20 0 s0) 21 ((St.I (St.sI (σ) 20 0 s0) 20 2)).toNatClampNeg x3) 20 2)).toNatClampNeg (St.I (St.sI (St.sI (σ) 20 0 s0) 21 ((St.I (St.sI (σ) 20 0 s0) 20 2)).toNatClampNeg x3) 20 1)) 23 ((St.I (St.sI (St.sI (St.sI (σ) 20 0 s0) 21 ((St.I (St.sI (σ) 20 0 s0) 20 2)).toNatClampNeg x3) 22 ((St.I (St.sI (St.sI (σ) 20 0 s0) 21 ((St.I (St.sI (σ) 20 0 s0) 20 2)).toNatClampNeg x3) 20 2)).toNatClampNeg (St.I (St.sI (St.sI (σ) 20 0 s0) 21 ((St.I (St.sI (σ) 20 0 s0) 20 2)).toNatClampNeg x3) 20 1)) 20 2)).toNatClampNeg x2) 20 2)).toNatClampNeg x4) 20 2)).toNatClampNeg x5) 20 2)).toNatClampNeg x6)) ?_
    refine g_aload_n hX d_M_file_113 rfl 0 rfl ?_
    refine g_getf (i := 324) (kf := 9) hX (lt_c (by decide)) rfl (lay_MO (AC := AC) (Γ := Γ)) rfl in_M (by decide) t_814 (Or.inl rfl) rfl d_M_file_114 ?_
    refine g_aload_n hX d_M_file_117 rfl 0 rfl ?_
    refine g_getf (i := 324) (kf := 2) hX (lt_c (by decide)) rfl (lay_MO (AC := AC) (Γ := Γ)) rfl in_M (by decide) t_807 (Or.inl rfl) rfl d_M_file_118 ?_
    refine g_iload hX d_M_file_121 6 rfl ?_
    obtain ⟨q9, h⟩ := h
    refine g_iast (i := 331) hX (lt_c (by decide)) rfl (lay_m6 (AC := AC) (Γ := Γ)) q9 d_M_file_123 (wσ_m_fourth (upd (St.I (St.sI (St.sI (St.sI (St.sI (St.sI (St.sI (St.sI (σ) 20 0 s0) 21 ((St.I (St.sI (σ) 20 0 s0) 20 2)).toNatClampNeg x3) 22 ((St.I (St.sI (St.sI (σ) 20 0 s0) 21 ((St.I (St.sI (σ) 20 0 s0) 20 2)).toNatClampNeg x3) 20 2)).toNatClampNeg (St.I (St.sI (St.sI (σ) 20 0 s0) 21 ((St.I (St.sI (σ) 20 0 s0) 20 2)).toNatClampNeg x3) 20 1)) 23 ((St.I (St.sI (St.sI (St.sI (σ) 20 0 s0) 21 ((St.I (St.sI (σ) 20 0 s0) 20 2)).toNatClampNeg x3) 22 ((St.I (St.sI (St.sI (σ) 20 0 s0) 21 ((St.I (St.sI (σ) 20 0 s0) 20 2)).toNatClampNeg x3) 20 2)).toNatClampNeg (St.I (St.sI (St.sI (σ) 20 0 s0) 21 ((St.I (St.sI (σ) 20 0 s0) 20 2)).toNatClampNeg x3) 20 1)) 20 2)).toNatClampNeg x2) 24 ((St.I (St.sI (St.sI (St.sI (St.sI (σ) 20 0 s0) 21 ((St.I (St.sI (σ) 20 0 s0) 20 2)).toNatClampNeg x3) 22 ((St.I (St.sI (St.sI (σ) 20 0 s0) 21 ((St.I (St.sI (σ) 20 0 s0) 20 2)).toNatClampNeg x3) 20 2)).toNatClampNeg (St.I (St.sI (St.sI (σ) 20 0 s0) 21 ((St.I (St.sI (σ) 20 0 s0) 20 2)).toNatClampNeg x3) 20 1)) 23 ((St.I (St.sI (St.sI (St.sI (σ) 20 0 s0) 21 ((St.I (St.sI (σ) 20 0 s0) 20 2)).toNatClampNeg x3) 22 ((St.I (St.sI (St.sI (σ) 20 0 s0) 21 ((St.I (St.sI (σ) 20 0 s0) 20 2)).toNatClampNeg x3) 20 2)).toNatClampNeg (St.I (St.sI (St.sI (σ) 20 0 s0) 21 ((St.I (St.sI (σ) 20 0 s0) 20 2)).toNatClampNeg x3) 20 1)) 20 2)).toNatClampNeg x2) 20 2)).toNatClampNeg x4) 25 ((St.I (St.sI (St.sI (St.sI (St.sI (St.sI (σ) 20 0 s0) 21 ((St.I (St.sI (σ) 20 0 s0) 20 2)).toNatClampNeg x3) 22 ((St.I (St.sI (St.sI (σ) 20 0 s0) 21 ((St.I (St.sI (σ) 20 0 s0) 20 2)).toNatClampNeg x3) 20 2)).toNatClampNeg (St.I (St.sI (St.sI (σ) 20 0 s0) 21 ((St.I (St.sI (σ) 20 0 s0) 20 2)).toNatClampNeg x3) 20 1)) 23 ((St.I (St.sI (St.sI (St.sI (σ) 20 0 s0) 21 ((St.I (St.sI (σ) 20 0 s0) 20 2)).toNatClampNeg x3) 22 ((St.I (St.sI (St.sI (σ) 20 0 s0) 21 ((St.I (St.sI (σ) 20 0 s0) 20 2)).toNatClampNeg x3) 20 2)).toNatClampNeg (St.I (St.sI (St.sI (σ) 20 0 s0) 21 ((St.I (St.sI (σ) 20 0 s0) 20 2)).toNatClampNeg x3) 20 1)) 20 2)).toNatClampNeg x2) 24 ((St.I (St.sI (St.sI (St.sI (St.sI (σ) 20 0 s0) 21 ((St.I (St.sI (σ) 20 0 s0) 20 2)).toNatClampNeg x3) 22 ((St.I (St.sI (St.sI (σ) 20 0 s0) 21 ((St.I (St.sI (σ) 20 0 s0) 20 2)).toNatClampNeg x3) 20 2)).toNatClampNeg (St.I (St.sI (St.sI (σ) 20 0 s0) 21 ((St.I (St.sI (σ) 20 0 s0) 20 2)).toNatClampNeg x3) 20 1)) 23 ((St.I (St.sI (St.sI (St.sI (σ) 20 0 s0) 21 ((St.I (St.sI (σ) 20 0 s0) 20 2)).toNatClampNeg x3) 22 ((St.I (St.sI (St.sI (σ) 20 0 s0) 21 ((St.I (St.sI (σ) 20 0 s0) 20 2)).toNatClampNeg x3) 20 2)).toNatClampNeg (St.I (St.sI (St.sI (σ) 20 0 s0) 21 ((St.I (St.sI (σ) 20 0 s0) 20 2)).toNatClampNeg x3) 20 1)) 20 2)).toNatClampNeg x2) 20 2)).toNatClampNeg x4) 20 2)).toNatClampNeg x5) 26 ((St.I (St.sI (St.sI (St.sI (St.sI (St.sI (St.sI (σ) 20 0 s0) 21 ((St.I (St.sI (σ) 20 0 s0) 20 2)).toNatClampNeg x3) 22 ((St.I (St.sI (St.sI (σ) 20 0 s0) 21 ((St.I (St.sI (σ) 20 0 s0) 20 2)).toNatClampNeg x3) 20 2)).toNatClampNeg (St.I (St.sI (St.sI (σ) 20 0 s0) 21 ((St.I (St.sI (σ) 20 0 s0) 20 2)).toNatClampNeg x3) 20 1)) 23 ((St.I (St.sI (St.sI (St.sI (σ) 20 0 s0) 21 ((St.I (St.sI (σ) 20 0 s0) 20 2)).toNatClampNeg x3) 22 ((St.I (St.sI (St.sI (σ) 20 0 s0) 21 ((St.I (St.sI (σ) 20 0 s0) 20 2)).toNatClampNeg x3) 20 2)).toNatClampNeg (St.I (St.sI (St.sI (σ) 20 0 s0) 21 ((St.I (St.sI (σ) 20 0 s0) 20 2)).toNatClampNeg x3) 20 1)) 20 2)).toNatClampNeg x2) 24 ((St.I (St.sI (St.sI (St.sI (St.sI (σ) 20 0 s0) 21 ((St.I (St.sI (σ) 20 0 s0) 20 2)).toNatClampNeg x3) 22 ((St.I (St.sI (St.sI (σ) 20 0 s0) 21 ((St.I (St.sI (σ) 20 0 s0) 20 2)).toNatClampNeg x3) 20 2)).toNatClampNeg (St.I (St.sI (St.sI (σ) 20 0 s0) 21 ((St.I (St.sI (σ) 20 0 s0) 20 2)).toNatClampNeg x3) 20 1)) 23 ((St.I (St.sI (St.sI (St.sI (σ) 20 0 s0) 21 ((St.I (St.sI (σ) 20 0 s0) 20 2)).toNatClampNeg x3) 22 ((St.I (St.sI (St.sI (σ) 20 0 s0) 21 ((St.I (St.sI (σ) 20 0 s0) 20 2)).toNatClampNeg x3) 20 2)).toNatClampNeg (St.I (St.sI (St.sI (σ) 20 0 s0) 21 ((St.I (St.sI (σ) 20 0 s0) 20 2)).toNatClampNeg x3) 20 1)) 20 2)).toNatClampNeg x2) 20 2)).toNatClampNeg x4) 25 ((St.I (St.sI (St.sI (St.sI (St.sI (St.sI (σ) 20 0 s0) 21 ((St.I (St.sI (σ) 20 0 s0) 20 2)).toNatClampNeg x3) 22 ((St.I (St.sI (St.sI (σ) 20 0 s0) 21 ((St.I (St.sI (σ) 20 0 s0) 20 2)).toNatClampNeg x3) 20 2)).toNatClampNeg (St.I (St.sI (St.sI (σ) 20 0 s0) 21 ((St.I (St.sI (σ) 20 0 s0) 20 2)).toNatClampNeg x3) 20 1)) 23 ((St.I (St.sI (St.sI (St.sI (σ) 20 0 s0) 21 ((St.I (St.sI (σ) 20 0 s0) 20 2)).toNatClampNeg x3) 22 ((St.I (St.sI (St.sI (σ) 20 0 s0) 21 ((St.I (St.sI (σ) 20 0 s0) 20 2)).toNatClampNeg x3) 20 2)).toNatClampNeg (St.I (St.sI (St.sI (σ) 20 0 s0) 21 ((St.I (St.sI (σ) 20 0 s0) 20 2)).toNatClampNeg x3) 20 1)) 20 2)).toNatClampNeg x2) 24 ((St.I (St.sI (St.sI (St.sI (St.sI (σ) 20 0 s0) 21 ((St.I (St.sI (σ) 20 0 s0) 20 2)).toNatClampNeg x3) 22 ((St.I (St.sI (St.sI (σ) 20 0 s0) 21 ((St.I (St.sI (σ) 20 0 s0) 20 2)).toNatClampNeg x3) 20 2)).toNatClampNeg (St.I (St.sI (St.sI (σ) 20 0 s0) 21 ((St.I (St.sI (σ) 20 0 s0) 20 2)).toNatClampNeg x3) 20 1)) 23 ((St.I (St.sI (St.sI (St.sI (σ) 20 0 s0) 21 ((St.I (St.sI (σ) 20 0 s0) 20 2)).toNatClampNeg x3) 22 ((St.I (St.sI (St.sI (σ) 20 0 s0) 21 ((St.I (St.sI (σ) 20 0 s0) 20 2)).toNatClampNeg x3) 20 2)).toNatClampNeg (St.I (St.sI (St.sI (σ) 20 0 s0) 21 ((St.I (St.sI (σ) 20 0 s0) 20 2)).toNatClampNeg x3) 20 1)) 20 2)).toNatClampNeg x2) 20 2)).toNatClampNeg x4) 20 2)).toNatClampNeg x5) 20 2)).toNatClampNeg x6) 27) ((St.I (St.sI (St.sI (St.sI (St.sI (St.sI (St.sI (St.sI (σ) 20 0 s0) 21 ((St.I (St.sI (σ) 20 0 s0) 20 2)).toNatClampNeg x3) 22 ((St.I (St.sI (St.sI (σ) 20 0 s0) 21 ((St.I (St.sI (σ) 20 0 s0) 20 2)).toNatClampNeg x3) 20 2)).toNatClampNeg (St.I (St.sI (St.sI (σ) 20 0 s0) 21 ((St.I (St.sI (σ) 20 0 s0) 20 2)).toNatClampNeg x3) 20 1)) 23 ((St.I (St.sI (St.sI (St.sI (σ) 20 0 s0) 21 ((St.I (St.sI (σ) 20 0 s0) 20 2)).toNatClampNeg x3) 22 ((St.I (St.sI (St.sI (σ) 20 0 s0) 21 ((St.I (St.sI (σ) 20 0 s0) 20 2)).toNatClampNeg x3) 20 2)).toNatClampNeg (St.I (St.sI (St.sI (σ) 20 0 s0) 21 ((St.I (St.sI (σ) 20 0 s0) 20 2)).toNatClampNeg x3) 20 1)) 20 2)).toNatClampNeg x2) 24 ((St.I (St.sI (St.sI (St.sI (St.sI (σ) 20 0 s0) 21 ((St.I (St.sI (σ) 20 0 s0) 20 2)).toNatClampNeg x3) 22 ((St.I (St.sI (St.sI (σ) 20 0 s0) 21 ((St.I (St.sI (σ) 20 0 s0) 20 2)).toNatClampNeg x3) 20 2)).toNatClampNeg (St.I (St.sI (St.sI (σ) 20 0 s0) 21 ((St.I (St.sI (σ) 20 0 s0) 20 2)).toNatClampNeg x3) 20 1)) 23 ((St.I (St.sI (St.sI (St.sI (σ) 20 0 s0) 21 ((St.I (St.sI (σ) 20 0 s0) 20 2)).toNatClampNeg x3) 22 ((St.I (St.sI (St.sI (σ) 20 0 s0) 21 ((St.I (St.sI (σ) 20 0 s0) 20 2)).toNatClampNeg x3) 20 2)).toNatClampNeg (St.I (St.sI (St.sI (σ) 20 0 s0) 21 ((St.I (St.sI (σ) 20 0 s0) 20 2)).toNatClampNeg x3) 20 1)) 20 2)).toNatClampNeg x2) 20 2)).toNatClampNeg x4) 25 ((St.I (St.sI (St.sI (St.sI (St.sI (St.sI (σ) 20 0 s0) 21 ((St.I (St.sI (σ) 20 0 s0) 20 2)).toNatClampNeg x3) 22 ((St.I (St.sI (St.sI (σ) 20 0 s0) 21 ((St.I (St.sI (σ) 20 0 s0) 20 2)).toNatClampNeg x3) 20 2)).toNatClampNeg (St.I (St.sI (St.sI (σ) 20 0 s0) 21 ((St.I (St.sI (σ) 20 0 s0) 20 2)).toNatClampNeg x3) 20 1)) 23 ((St.I (St.sI (St.sI (St.sI (σ) 20 0 s0) 21 ((St.I (St.sI (σ) 20 0 s0) 20 2)).toNatClampNeg x3) 22 ((St.I (St.sI (St.sI (σ) 20 0 s0) 21 ((St.I (St.sI (σ) 20 0 s0) 20 2)).toNatClampNeg x3) 20 2)).toNatClampNeg (St.I (St.sI (St.sI (σ) 20 0 s0) 21 ((St.I (St.sI (σ) 20 0 s0) 20 2)).toNatClampNeg x3) 20 1)) 20 2)).toNatClampNeg x2) 24 ((St.I (St.sI (St.sI (St.sI (St.sI (σ) 20 0 s0) 21 ((St.I (St.sI (σ) 20 0 s0) 20 2)).toNatClampNeg x3) 22 ((St.I (St.sI (St.sI (σ) 20 0 s0) 21 ((St.I (St.sI (σ) 20 0 s0) 20 2)).toNatClampNeg x3) 20 2)).toNatClampNeg (St.I (St.sI (St.sI (σ) 20 0 s0) 21 ((St.I (St.sI (σ) 20 0 s0) 20 2)).toNatClampNeg x3) 20 1)) 23 ((St.I (St.sI (St.sI (St.sI (σ) 20 0 s0) 21 ((St.I (St.sI (σ) 20 0 s0) 20 2)).toNatClampNeg x3) 22 ((St.I (St.sI (St.sI (σ) 20 0 s0) 21 ((St.I (St.sI (σ) 20 0 s0) 20 2)).toNatClampNeg x3) 20 2)).toNatClampNeg (St.I (St.sI (St.sI (σ) 20 0 s0) 21 ((St.I (St.sI (σ) 20 0 s0) 20 2)).toNatClampNeg x3) 20 1)) 20 2)).toNatClampNeg x2) 20 2)).toNatClampNeg x4) 20 2)).toNatClampNeg x5) 26 ((St.I (St.sI (St.sI (St.sI (St.sI (St.sI (St.sI (σ) 20 0 s0) 21 ((St.I (St.sI (σ) 20 0 s0) 20 2)).toNatClampNeg x3) 22 ((St.I (St.sI (St.sI (σ) 20 0 s0) 21 ((St.I (St.sI (σ) 20 0 s0) 20 2)).toNatClampNeg x3) 20 2)).toNatClampNeg (St.I (St.sI (St.sI (σ) 20 0 s0) 21 ((St.I (St.sI (σ) 20 0 s0) 20 2)).toNatClampNeg x3) 20 1)) 23 ((St.I (St.sI (St.sI (St.sI (σ) 20 0 s0) 21 ((St.I (St.sI (σ) 20 0 s0) 20 2)).toNatClampNeg x3) 22 ((St.I (St.sI (St.sI (σ) 20 0 s0) 21 ((St.I (St.sI (σ) 20 0 s0) 20 2)).toNatClampNeg x3) 20 2)).toNatClampNeg (St.I (St.sI (St.sI (σ) 20 0 s0) 21 ((St.I (St.sI (σ) 20 0 s0) 20 2)).toNatClampNeg x3) 20 1)) 20 2)).toNatClampNeg x2) 24 ((St.I (St.sI (St.sI (St.sI (St.sI (σ) 20 0 s0) 21 ((St.I (St.sI (σ) 20 0 s0) 20 2)).toNatClampNeg x3) 22 ((St.I (St.sI (St.sI (σ) 20 0 s0) 21 ((St.I (St.sI (σ) 20 0 s0) 20 2)).toNatClampNeg x3) 20 2)).toNatClampNeg (St.I (St.sI (St.sI (σ) 20 0 s0) 21 ((St.I (St.sI (σ) 20 0 s0) 20 2)).toNatClampNeg x3) 20 1)) 23 ((St.I (St.sI (St.sI (St.sI (σ) 20 0 s0) 21 ((St.I (St.sI (σ) 20 0 s0) 20 2)).toNatClampNeg x3) 22 ((St.I (St.sI (St.sI (σ) 20 0 s0) 21 ((St.I (St.sI (σ) 20 0 s0) 20 2)).toNatClampNeg x3) 20 2)).toNatClampNeg (St.I (St.sI (St.sI (σ) 20 0 s0) 21 ((St.I (St.sI (σ) 20 0 s0) 20 2)).toNatClampNeg x3) 20 1)) 20 2)).toNatClampNeg x2) 20 2)).toNatClampNeg x4) 25 ((St.I (St.sI (St.sI (St.sI (St.sI (St.sI (σ) 20 0 s0) 21 ((St.I (St.sI (σ) 20 0 s0) 20 2)).toNatClampNeg x3) 22 ((St.I (St.sI (St.sI (σ) 20 0 s0) 21 ((St.I (St.sI (σ) 20 0 s0) 20 2)).toNatClampNeg x3) 20 2)).toNatClampNeg (St.I (St.sI (St.sI (σ) 20 0 s0) 21 ((St.I (St.sI (σ) 20 0 s0) 20 2)).toNatClampNeg x3) 20 1)) 23 ((St.I (St.sI (St.sI (St.sI (σ) 20 0 s0) 21 ((St.I (St.sI (σ) 20 0 s0) 20 2)).toNatClampNeg x3) 22 ((St.I (St.sI (St.sI (σ) 20 0 s0) 21 ((St.I (St.sI (σ) 20 0 s0) 20 2)).toNatClampNeg x3) 20 2)).toNatClampNeg (St.I (St.sI (St.sI (σ) 20 0 s0) 21 ((St.I (St.sI (σ) 20 0 s0) 20 2)).toNatClampNeg x3) 20 1)) 20 2)).toNatClampNeg x2) 24 ((St.I (St.sI (St.sI (St.sI (St.sI (σ) 20 0 s0) 21 ((St.I (St.sI (σ) 20 0 s0) 20 2)).toNatClampNeg x3) 22 ((St.I (St.sI (St.sI (σ) 20 0 s0) 21 ((St.I (St.sI (σ) 20 0 s0) 20 2)).toNatClampNeg x3) 20 2)).toNatClampNeg (St.I (St.sI (St.sI (σ) 20 0 s0) 21 ((St.I (St.sI (σ) 20 0 s0) 20 2)).toNatClampNeg x3) 20 1)) 23 ((St.I (St.sI (St.sI (St.sI (σ) 20 0 s0) 21 ((St.I (St.sI (σ) 20 0 s0) 20 2)).toNatClampNeg x3) 22 ((St.I (St.sI (St.sI (σ) 20 0 s0) 21 ((St.I (St.sI (σ) 20 0 s0) 20 2)).toNatClampNeg x3) 20 2)).toNatClampNeg (St.I (St.sI (St.sI (σ) 20 0 s0) 21 ((St.I (St.sI (σ) 20 0 s0) 20 2)).toNatClampNeg x3) 20 1)) 20 2)).toNatClampNeg x2) 20 2)).toNatClampNeg x4) 20 2)).toNatClampNeg x5) 20 2)).toNatClampNeg x6) 20 2)).toNatClampNeg x7)) ?_
    refine g_aload_n hX d_M_file_124 rfl 0 rfl ?_
    refine g_dup hX d_M_file_125 rfl ?_
    refine g_getf (i := 324) (kf := 2) hX (lt_c (by decide)) rfl (lay_MO (AC := AC) (Γ := Γ)) rfl in_M (by decide) t_807 (Or.inl rfl) rfl d_M_file_126 ?_
    refine g_iconst (v := 1) hX d_M_file_129 (by decide) ?_
    refine g_iadd hX d_M_file_130 ?_
    refine g_putf (i := 324) (kf := 2) (ty := .int) hX (lt_c (by decide)) rfl (lay_MO (AC := AC) (Γ := Γ)) rfl in_M ty_M nm_M (by decide) t_807 (Or.inl rfl) rfl (by decide +kernel) rfl rfl (by show _ < List.length _; simp) d_M_file_131 (wσ_mdeeds _) ?_
    refine g_aload_n hX d_M_file_134 rfl 0 rfl ?_
    refine g_aload_n hX d_M_file_135 rfl 0 rfl ?_
    refine g_getf (i := 324) (kf := 1) hX (lt_c (by decide)) rfl (lay_MO (AC := AC) (Γ := Γ)) rfl in_M (by decide) t_806 (Or.inl rfl) rfl d_M_file_136 ?_
    refine g_aload_n hX d_M_file_139 rfl 0 rfl ?_
    refine g_getf (i := 324) (kf := 1) hX (lt_c (by decide)) rfl (lay_MO (AC := AC) (Γ := Γ)) rfl in_M (by decide) t_806 (Or.inl rfl) rfl d_M_file_140 ?_
    refine g_callV (i := 324) (k := 0) (n := 0) hX (c_M_look h) hdT_M_look hdO_M_look t_3 t_746 t_748 ts_M_look (lt_c (by decide)) rfl (lay_MO (AC := AC) (Γ := Γ)) rfl ⟨⟨by decide, by decide⟩, np_M_look⟩ ⟨Nat.le_of_ble_eq_true rfl, Nat.le_of_ble_eq_true rfl⟩ (Nat.le_of_ble_eq_true rfl) d_M_file_143 rfl ?_ (fun _ _ z => z)
    rintro _ _ ⟨σ11, rfl, rfl, h⟩
    refine g_aload_n hX d_M_file_146 rfl 0 rfl ?_
    refine g_getf (i := 324) (kf := 2) hX (lt_c (by decide)) rfl (lay_MO (AC := AC) (Γ := Γ)) rfl in_M (by decide) t_807 (Or.inl rfl) rfl d_M_file_147 ?_
    refine g_iconst (v := 1) hX d_M_file_150 (by decide) ?_
    refine g_isub hX d_M_file_151 ?_
    exact g_iret hX rfl d_M_file_152 ⟨_, _, rfl, rfl, h⟩
  · have h := h.2 q2
    refine g_iconst (v := 0) hX d_M_file_45 (by decide) ?_
    exact g_iret hX rfl d_M_file_46 ⟨_, _, rfl, rfl, h⟩
set_option maxRecDepth 100000 in
set_option maxHeartbeats 4000000 in
theorem b_M_file_17 {p : Program} {l : Launch} {e : Env} {s : State} {m : MethodId} {args : Array Value} {below : List Frame} {meth : Method} {c : Code} {D : va_G} {AC : Nat → ClassId} {lo : Nat} {Γ : Ev} {post : Int32 → St → Prop} {thr : String → St → Prop} (hX : Cx p s m args meth c y_M_file b_M_file 8 (some .int) [] D AC lo)   (x2 : Int32) (x3 : Int32) (x4 : Int32) (x5 : Int32) (x6 : Int32) (x7 : Int32) (σ : St) (h : wp_M_file_17 Γ  post thr x2 x3 x4 x5 x6 x7 σ) : G p l e rm_M_file s m args below meth c 8 D lo (pI AC Γ post) (tX AC Γ thr) (wσ AC Γ (σ)) 0 0 17 [(0, .ref (Γ.ad 324)), (2, .int (x2)), (3, .int (x3)), (4, .int (x4)), (5, .int (x5)), (6, .int (x6)), (7, .int (x7))] [.ref (Γ.ad 324)] := by
  unfold wp_M_file_17 at h
  refine g_iconst (v := 1) hX d_M_file_17 (by decide) ?_
  refine g_goto (tgt := 35) hX d_M_file_18 (by decide) ?_
  refine g_sub [0, 1, 2, 3, 4, 5, 6] rfl ?_
  exact b_M_file_35 hX  _ _ _ _ _ _ _ _ h
set_option maxRecDepth 100000 in
set_option maxHeartbeats 4000000 in
theorem c_M_file {l : Launch} {D : va_G} {AC : Nat → ClassId} {lo : Nat} {Γ : Ev} {x1 : Int32} {x2 : Int32} {x3 : Int32} {x4 : Int32} {x5 : Int32} {x6 : Int32} {x7 : Int32} {σ : St} {post : Int32 → St → Prop} {thr : String → St → Prop} (h : wp_M_file Γ x1 x2 x3 x4 x5 x6 x7 σ post thr) : Ct l y_M_file hd_M_file rm_M_file D AC lo [.ref (Γ.ad 324), .int (x1), .int (x2), .int (x3), .int (x4), .int (x5), .int (x6), .int (x7)] (wσ AC Γ σ) (pI AC Γ post) (tX AC Γ thr) := by
  refine Ct.of (by decide) (Nat.le_of_ble_eq_true rfl) ?_
  intro p e s m args below meth c hadm hX
  unfold wp_M_file at h
  show G p l e rm_M_file s m args below meth c 8 D lo (pI AC Γ post) (tX AC Γ thr) (wσ AC Γ (σ)) 0 0 0 [(0, .ref (Γ.ad 324)), (1, .int (x1)), (2, .int (x2)), (3, .int (x3)), (4, .int (x4)), (5, .int (x5)), (6, .int (x6)), (7, .int (x7))] []
  refine g_aload_n hX d_M_file_0 rfl 0 rfl ?_
  refine g_iload_n hX d_M_file_1 rfl 1 rfl ?_
  refine g_if_ne (tgt := 17) hX d_M_file_2 (by decide) (fun q1 => ?_) (fun q1 => ?_)
  · have h := h.1 q1
    refine g_sub [0, 2, 3, 4, 5, 6, 7] rfl ?_
    exact b_M_file_17 hX  _ _ _ _ _ _ _ h
  · have h := h.2 q1
    refine g_iload_n hX d_M_file_5 rfl 2 rfl ?_
    refine g_if_lt (tgt := 17) hX d_M_file_6 (by decide) (fun q12 => ?_) (fun q12 => ?_)
    · have h := h.1 q12
      refine g_sub [0, 2, 3, 4, 5, 6, 7] rfl ?_
      exact b_M_file_17 hX  _ _ _ _ _ _ _ h
    · have h := h.2 q12
      refine g_iload_n hX d_M_file_9 rfl 2 rfl ?_
      refine g_aload_n hX d_M_file_10 rfl 0 rfl ?_
      refine g_getf (i := 324) (kf := 1) hX (lt_c (by decide)) rfl (lay_MO (AC := AC) (Γ := Γ)) rfl in_M (by decide) t_806 (Or.inl rfl) rfl d_M_file_11 ?_
      refine g_icmp_le (tgt := 21) hX d_M_file_14 (by decide) (fun q13 => ?_) (fun q13 => ?_)
      · have h := h.1 q13
        refine g_aload_n hX d_M_file_21 rfl 0 rfl ?_
        refine g_getf (i := 324) (kf := 2) hX (lt_c (by decide)) rfl (lay_MO (AC := AC) (Γ := Γ)) rfl in_M (by decide) t_807 (Or.inl rfl) rfl d_M_file_22 ?_
        refine g_bipush (v := 40) hX d_M_file_25 (by decide) ?_
        refine g_icmp_ne (tgt := 34) hX d_M_file_27 (by decide) (fun q14 => ?_) (fun q14 => ?_)
        · have h := h.1 q14
          refine g_iconst (v := 0) hX d_M_file_34 (by decide) ?_
          refine g_sub [0, 2, 3, 4, 5, 6, 7] rfl ?_
          exact b_M_file_35 hX  _ _ _ _ _ _ _ _ h
        · have h := h.2 q14
          refine g_iconst (v := 2) hX d_M_file_30 (by decide) ?_
          refine g_goto (tgt := 35) hX d_M_file_31 (by decide) ?_
          refine g_sub [0, 2, 3, 4, 5, 6, 7] rfl ?_
          exact b_M_file_35 hX  _ _ _ _ _ _ _ _ h
      · have h := h.2 q13
        refine g_sub [0, 2, 3, 4, 5, 6, 7] rfl ?_
        exact b_M_file_17 hX  _ _ _ _ _ _ _ h

def wp_M_found_20 (Γ : Ev)  (post : Int32 → St → Prop) (thr : String → St → Prop) (x1 : Int32) (x2 : Int32) (x3 : Int32) (s0 : Int32) (σ : St) : Prop := wp_M_file Γ (s0) (x1) ((0 : Int32)) (x2) (x3) ((0 : Int32)) ((0 : Int32)) (σ) (fun v4 σ5 => post v4 (σ5)) thr
def wp_M_found_15 (Γ : Ev)  (post : Int32 → St → Prop) (thr : String → St → Prop) (x1 : Int32) (x2 : Int32) (x3 : Int32) (σ : St) : Prop := wp_M_found_20 Γ  post thr (x1) (x2) (x3) ((1 : Int32)) (σ)
def wp_M_found (Γ : Ev) (x1 : Int32) (x2 : Int32) (x3 : Int32) (σ : St) (post : Int32 → St → Prop) (thr : String → St → Prop) : Prop := wp_M_noAmount Γ (x2) (σ) (fun v1 σ2 => ((¬ v1 = 0 → wp_M_found_15 Γ  post thr (x1) (x2) (x3) (σ2)) ∧ (v1 = 0 → wp_M_noPerson Γ (x3) (σ2) (fun v6 σ7 => ((v6 = 0 → wp_M_found_20 Γ  post thr (x1) (x2) (x3) ((0 : Int32)) (σ7)) ∧ (¬ v6 = 0 → wp_M_found_15 Γ  post thr (x1) (x2) (x3) (σ7)))) thr))) thr
abbrev rm_M_found : Room := { frames := 6, cells := 0, slots := 0, locals := 160 }
set_option maxRecDepth 100000 in
set_option maxHeartbeats 4000000 in
theorem b_M_found_20 {p : Program} {l : Launch} {e : Env} {s : State} {m : MethodId} {args : Array Value} {below : List Frame} {meth : Method} {c : Code} {D : va_G} {AC : Nat → ClassId} {lo : Nat} {Γ : Ev} {post : Int32 → St → Prop} {thr : String → St → Prop} (hX : Cx p s m args meth c y_M_found b_M_found 4 (some .int) [] D AC lo)   (x1 : Int32) (x2 : Int32) (x3 : Int32) (s0 : Int32) (σ : St) (h : wp_M_found_20 Γ  post thr x1 x2 x3 s0 σ) : G p l e rm_M_found s m args below meth c 4 D lo (pI AC Γ post) (tX AC Γ thr) (wσ AC Γ (σ)) 0 0 20 [(1, .int (x1)), (2, .int (x2)), (3, .int (x3))] [.int (s0), .ref (Γ.ad 324)] := by
  unfold wp_M_found_20 at h
  refine g_iload_n hX d_M_found_20 rfl 0 rfl ?_
  refine g_iconst (v := 0) hX d_M_found_21 (by decide) ?_
  refine g_iload_n hX d_M_found_22 rfl 1 rfl ?_
  refine g_iload_n hX d_M_found_23 rfl 2 rfl ?_
  refine g_iconst (v := 0) hX d_M_found_24 (by decide) ?_
  refine g_iconst (v := 0) hX d_M_found_25 (by decide) ?_
  refine g_callV (i := 324) (k := 0) (n := 0) hX (c_M_file h) hdT_M_file hdO_M_file t_3 t_885 t_887 ts_M_file (lt_c (by decide)) rfl (lay_MO (AC := AC) (Γ := Γ)) rfl ⟨⟨by decide, by decide⟩, np_M_file⟩ ⟨Nat.le_of_ble_eq_true rfl, Nat.le_of_ble_eq_true rfl⟩ (Nat.le_of_ble_eq_true rfl) d_M_found_26 rfl ?_ (fun _ _ z => z)
  rintro _ _ ⟨v4, σ5, rfl, rfl, h⟩
  exact g_iret hX rfl d_M_found_29 ⟨_, _, rfl, rfl, h⟩
set_option maxRecDepth 100000 in
set_option maxHeartbeats 4000000 in
theorem b_M_found_15 {p : Program} {l : Launch} {e : Env} {s : State} {m : MethodId} {args : Array Value} {below : List Frame} {meth : Method} {c : Code} {D : va_G} {AC : Nat → ClassId} {lo : Nat} {Γ : Ev} {post : Int32 → St → Prop} {thr : String → St → Prop} (hX : Cx p s m args meth c y_M_found b_M_found 4 (some .int) [] D AC lo)   (x1 : Int32) (x2 : Int32) (x3 : Int32) (σ : St) (h : wp_M_found_15 Γ  post thr x1 x2 x3 σ) : G p l e rm_M_found s m args below meth c 4 D lo (pI AC Γ post) (tX AC Γ thr) (wσ AC Γ (σ)) 0 0 15 [(1, .int (x1)), (2, .int (x2)), (3, .int (x3))] [.ref (Γ.ad 324)] := by
  unfold wp_M_found_15 at h
  refine g_iconst (v := 1) hX d_M_found_15 (by decide) ?_
  refine g_goto (tgt := 20) hX d_M_found_16 (by decide) ?_
  refine g_sub [0, 1, 2] rfl ?_
  exact b_M_found_20 hX  _ _ _ _ _ h
set_option maxRecDepth 100000 in
set_option maxHeartbeats 4000000 in
theorem c_M_found {l : Launch} {D : va_G} {AC : Nat → ClassId} {lo : Nat} {Γ : Ev} {x1 : Int32} {x2 : Int32} {x3 : Int32} {σ : St} {post : Int32 → St → Prop} {thr : String → St → Prop} (h : wp_M_found Γ x1 x2 x3 σ post thr) : Ct l y_M_found hd_M_found rm_M_found D AC lo [.ref (Γ.ad 324), .int (x1), .int (x2), .int (x3)] (wσ AC Γ σ) (pI AC Γ post) (tX AC Γ thr) := by
  refine Ct.of (by decide) (Nat.le_of_ble_eq_true rfl) ?_
  intro p e s m args below meth c hadm hX
  unfold wp_M_found at h
  show G p l e rm_M_found s m args below meth c 4 D lo (pI AC Γ post) (tX AC Γ thr) (wσ AC Γ (σ)) 0 0 0 [(0, .ref (Γ.ad 324)), (1, .int (x1)), (2, .int (x2)), (3, .int (x3))] []
  refine g_aload_n hX d_M_found_0 rfl 0 rfl ?_
  refine g_iload_n hX d_M_found_1 rfl 2 rfl ?_
  refine g_callS (k := 0) (n := 0) hX (c_M_noAmount h) hdT_M_noAmount hdO_M_noAmount t_3 t_878 t_879 ⟨⟨by decide, by decide⟩, np_M_noAmount⟩ ⟨Nat.le_of_ble_eq_true rfl, Nat.le_of_ble_eq_true rfl⟩ (Nat.le_of_ble_eq_true rfl) d_M_found_2 rfl ?_ (fun _ _ z => z)
  rintro _ _ ⟨v1, σ2, rfl, rfl, h⟩
  refine g_if_ne (tgt := 15) hX d_M_found_5 (by decide) (fun q3 => ?_) (fun q3 => ?_)
  · have h := h.1 q3
    refine g_sub [1, 2, 3] rfl ?_
    exact b_M_found_15 hX  _ _ _ _ h
  · have h := h.2 q3
    refine g_iload_n hX d_M_found_8 rfl 3 rfl ?_
    refine g_callS (k := 0) (n := 0) hX (c_M_noPerson h) hdT_M_noPerson hdO_M_noPerson t_3 t_882 t_883 ⟨⟨by decide, by decide⟩, np_M_noPerson⟩ ⟨Nat.le_of_ble_eq_true rfl, Nat.le_of_ble_eq_true rfl⟩ (Nat.le_of_ble_eq_true rfl) d_M_found_9 rfl ?_ (fun _ _ z => z)
    rintro _ _ ⟨v6, σ7, rfl, rfl, h⟩
    refine g_if_eq (tgt := 19) hX d_M_found_12 (by decide) (fun q8 => ?_) (fun q8 => ?_)
    · have h := h.1 q8
      refine g_iconst (v := 0) hX d_M_found_19 (by decide) ?_
      refine g_sub [1, 2, 3] rfl ?_
      exact b_M_found_20 hX  _ _ _ _ _ h
    · have h := h.2 q8
      refine g_sub [1, 2, 3] rfl ?_
      exact b_M_found_15 hX  _ _ _ _ h

def wp_M_sell_79 (Γ : Ev)  (post : Int32 → St → Prop) (thr : String → St → Prop) (x1 : Int32) (x2 : Int32) (x3 : Int32) (x4 : Int32) (x7 : Int64) (x9 : Int64) (s0 : Int32) (σ : St) : Prop := wp_M_file Γ (s0) (x1) ((1 : Int32)) (x2) ((((8 : Int32) * x3) + x4)) ((Int64.toInt32 x7)) ((Int64.toInt32 x9)) (σ) (fun v4 σ5 => post v4 (σ5)) thr
def wp_M_sell_74 (Γ : Ev)  (post : Int32 → St → Prop) (thr : String → St → Prop) (x1 : Int32) (x2 : Int32) (x3 : Int32) (x4 : Int32) (x7 : Int64) (x9 : Int64) (σ : St) : Prop := wp_M_sell_79 Γ  post thr (x1) (x2) (x3) (x4) (x7) (x9) ((1 : Int32)) (σ)
def wp_M_sell (Γ : Ev) (x1 : Int32) (x2 : Int32) (x3 : Int32) (x4 : Int32) (x5 : Int64) (σ : St) (post : Int32 → St → Prop) (thr : String → St → Prop) : Prop := wp_M_noParcel Γ (x2) (σ) (fun v1 σ2 => ((¬ v1 = 0 → wp_M_sell_74 Γ  post thr (x1) (x2) (x3) (x4) ((x5 >>> (Int32.toInt64 (32 : Int32) &&& 63))) ((x5 &&& (4294967295 : Int64))) (σ2)) ∧ (v1 = 0 → wp_M_noPerson Γ (x3) (σ2) (fun v6 σ7 => ((¬ v6 = 0 → wp_M_sell_74 Γ  post thr (x1) (x2) (x3) (x4) ((x5 >>> (Int32.toInt64 (32 : Int32) &&& 63))) ((x5 &&& (4294967295 : Int64))) (σ7)) ∧ (v6 = 0 → wp_M_noPerson Γ (x4) (σ7) (fun v9 σ10 => ((¬ v9 = 0 → wp_M_sell_74 Γ  post thr (x1) (x2) (x3) (x4) ((x5 >>> (Int32.toInt64 (32 : Int32) &&& 63))) ((x5 &&& (4294967295 : Int64))) (σ10)) ∧ (v9 = 0 → ((x3 = x4 → wp_M_sell_74 Γ  post thr (x1) (x2) (x3) (x4) ((x5 >>> (Int32.toInt64 (32 : Int32) &&& 63))) ((x5 &&& (4294967295 : Int64))) (σ10)) ∧ (¬ x3 = x4 → (((lg_cmp (x5 &&& (4294967295 : Int64)) (1 : Int64)) < 0 → wp_M_sell_74 Γ  post thr (x1) (x2) (x3) (x4) ((x5 >>> (Int32.toInt64 (32 : Int32) &&& 63))) ((x5 &&& (4294967295 : Int64))) (σ10)) ∧ (¬ (lg_cmp (x5 &&& (4294967295 : Int64)) (1 : Int64)) < 0 → ((0 < (lg_cmp (x5 &&& (4294967295 : Int64)) (1000000 : Int64)) → wp_M_sell_74 Γ  post thr (x1) (x2) (x3) (x4) ((x5 >>> (Int32.toInt64 (32 : Int32) &&& 63))) ((x5 &&& (4294967295 : Int64))) (σ10)) ∧ (¬ 0 < (lg_cmp (x5 &&& (4294967295 : Int64)) (1000000 : Int64)) → (((lg_cmp (x5 >>> (Int32.toInt64 (32 : Int32) &&& 63)) (1 : Int64)) < 0 → wp_M_sell_74 Γ  post thr (x1) (x2) (x3) (x4) ((x5 >>> (Int32.toInt64 (32 : Int32) &&& 63))) ((x5 &&& (4294967295 : Int64))) (σ10)) ∧ (¬ (lg_cmp (x5 >>> (Int32.toInt64 (32 : Int32) &&& 63)) (1 : Int64)) < 0 → (((lg_cmp (x5 >>> (Int32.toInt64 (32 : Int32) &&& 63)) (x5 &&& (4294967295 : Int64))) ≤ 0 → wp_M_sell_79 Γ  post thr (x1) (x2) (x3) (x4) ((x5 >>> (Int32.toInt64 (32 : Int32) &&& 63))) ((x5 &&& (4294967295 : Int64))) ((0 : Int32)) (σ10)) ∧ (¬ (lg_cmp (x5 >>> (Int32.toInt64 (32 : Int32) &&& 63)) (x5 &&& (4294967295 : Int64))) ≤ 0 → wp_M_sell_74 Γ  post thr (x1) (x2) (x3) (x4) ((x5 >>> (Int32.toInt64 (32 : Int32) &&& 63))) ((x5 &&& (4294967295 : Int64))) (σ10)))))))))))))) thr))) thr))) thr
abbrev rm_M_sell : Room := { frames := 6, cells := 0, slots := 0, locals := 160 }
set_option maxRecDepth 100000 in
set_option maxHeartbeats 4000000 in
theorem b_M_sell_79 {p : Program} {l : Launch} {e : Env} {s : State} {m : MethodId} {args : Array Value} {below : List Frame} {meth : Method} {c : Code} {D : va_G} {AC : Nat → ClassId} {lo : Nat} {Γ : Ev} {post : Int32 → St → Prop} {thr : String → St → Prop} (hX : Cx p s m args meth c y_M_sell b_M_sell 12 (some .int) [] D AC lo)   (x1 : Int32) (x2 : Int32) (x3 : Int32) (x4 : Int32) (x7 : Int64) (x9 : Int64) (s0 : Int32) (σ : St) (h : wp_M_sell_79 Γ  post thr x1 x2 x3 x4 x7 x9 s0 σ) : G p l e rm_M_sell s m args below meth c 12 D lo (pI AC Γ post) (tX AC Γ thr) (wσ AC Γ (σ)) 0 0 79 [(0, .ref (Γ.ad 324)), (1, .int (x1)), (2, .int (x2)), (3, .int (x3)), (4, .int (x4)), (7, .long (x7)), (9, .long (x9))] [.int (s0)] := by
  unfold wp_M_sell_79 at h
  refine g_istore hX d_M_sell_79 (by decide) rfl ?_
  refine g_aload_n hX d_M_sell_81 rfl 1 rfl ?_
  refine g_iload hX d_M_sell_82 0 rfl ?_
  refine g_iload_n hX d_M_sell_84 rfl 2 rfl ?_
  refine g_iconst (v := 1) hX d_M_sell_85 (by decide) ?_
  refine g_iload_n hX d_M_sell_86 rfl 3 rfl ?_
  refine g_bipush (v := 8) hX d_M_sell_87 (by decide) ?_
  refine g_iload_n hX d_M_sell_89 rfl 4 rfl ?_
  refine g_imul hX d_M_sell_90 ?_
  refine g_iload hX d_M_sell_91 5 rfl ?_
  refine g_iadd hX d_M_sell_93 ?_
  refine g_lload hX d_M_sell_94 6 rfl ?_
  refine g_l2i hX d_M_sell_96 ?_
  refine g_lload hX d_M_sell_97 7 rfl ?_
  refine g_l2i hX d_M_sell_99 ?_
  refine g_callV (i := 324) (k := 0) (n := 0) hX (c_M_file h) hdT_M_file hdO_M_file t_3 t_885 t_887 ts_M_file (lt_c (by decide)) rfl (lay_MO (AC := AC) (Γ := Γ)) rfl ⟨⟨by decide, by decide⟩, np_M_file⟩ ⟨Nat.le_of_ble_eq_true rfl, Nat.le_of_ble_eq_true rfl⟩ (Nat.le_of_ble_eq_true rfl) d_M_sell_100 rfl ?_ (fun _ _ z => z)
  rintro _ _ ⟨v4, σ5, rfl, rfl, h⟩
  exact g_iret hX rfl d_M_sell_103 ⟨_, _, rfl, rfl, h⟩
set_option maxRecDepth 100000 in
set_option maxHeartbeats 4000000 in
theorem b_M_sell_74 {p : Program} {l : Launch} {e : Env} {s : State} {m : MethodId} {args : Array Value} {below : List Frame} {meth : Method} {c : Code} {D : va_G} {AC : Nat → ClassId} {lo : Nat} {Γ : Ev} {post : Int32 → St → Prop} {thr : String → St → Prop} (hX : Cx p s m args meth c y_M_sell b_M_sell 12 (some .int) [] D AC lo)   (x1 : Int32) (x2 : Int32) (x3 : Int32) (x4 : Int32) (x7 : Int64) (x9 : Int64) (σ : St) (h : wp_M_sell_74 Γ  post thr x1 x2 x3 x4 x7 x9 σ) : G p l e rm_M_sell s m args below meth c 12 D lo (pI AC Γ post) (tX AC Γ thr) (wσ AC Γ (σ)) 0 0 74 [(0, .ref (Γ.ad 324)), (1, .int (x1)), (2, .int (x2)), (3, .int (x3)), (4, .int (x4)), (7, .long (x7)), (9, .long (x9))] [] := by
  unfold wp_M_sell_74 at h
  refine g_iconst (v := 1) hX d_M_sell_74 (by decide) ?_
  refine g_goto (tgt := 79) hX d_M_sell_75 (by decide) ?_
  refine g_sub [0, 1, 2, 3, 4, 5, 6] rfl ?_
  exact b_M_sell_79 hX  _ _ _ _ _ _ _ _ h
set_option maxRecDepth 100000 in
set_option maxHeartbeats 4000000 in
theorem c_M_sell {l : Launch} {D : va_G} {AC : Nat → ClassId} {lo : Nat} {Γ : Ev} {x1 : Int32} {x2 : Int32} {x3 : Int32} {x4 : Int32} {x5 : Int64} {σ : St} {post : Int32 → St → Prop} {thr : String → St → Prop} (h : wp_M_sell Γ x1 x2 x3 x4 x5 σ post thr) : Ct l y_M_sell hd_M_sell rm_M_sell D AC lo [.ref (Γ.ad 324), .int (x1), .int (x2), .int (x3), .int (x4), .long (x5)] (wσ AC Γ σ) (pI AC Γ post) (tX AC Γ thr) := by
  refine Ct.of (by decide) (Nat.le_of_ble_eq_true rfl) ?_
  intro p e s m args below meth c hadm hX
  unfold wp_M_sell at h
  show G p l e rm_M_sell s m args below meth c 12 D lo (pI AC Γ post) (tX AC Γ thr) (wσ AC Γ (σ)) 0 0 0 [(0, .ref (Γ.ad 324)), (1, .int (x1)), (2, .int (x2)), (3, .int (x3)), (4, .int (x4)), (5, .long (x5))] []
  refine g_lload hX d_M_sell_0 5 rfl ?_
  refine g_bipush (v := 32) hX d_M_sell_2 (by decide) ?_
  refine g_lshr hX d_M_sell_4 ?_
  refine g_lstore hX d_M_sell_5 (by decide) rfl ?_
  refine g_lload hX d_M_sell_7 6 rfl ?_
  refine g_ldc2 (v := 4294967295) hX t_893 d_M_sell_9 ?_
  refine g_land hX d_M_sell_12 ?_
  refine g_lstore hX d_M_sell_13 (by decide) rfl ?_
  refine g_iload_n hX d_M_sell_15 rfl 4 rfl ?_
  refine g_callS (k := 0) (n := 0) hX (c_M_noParcel h) hdT_M_noParcel hdO_M_noParcel t_3 t_894 t_895 ⟨⟨by decide, by decide⟩, np_M_noParcel⟩ ⟨Nat.le_of_ble_eq_true rfl, Nat.le_of_ble_eq_true rfl⟩ (Nat.le_of_ble_eq_true rfl) d_M_sell_16 rfl ?_ (fun _ _ z => z)
  rintro _ _ ⟨v1, σ2, rfl, rfl, h⟩
  refine g_if_ne (tgt := 74) hX d_M_sell_19 (by decide) (fun q3 => ?_) (fun q3 => ?_)
  · have h := h.1 q3
    refine g_sub [2, 3, 4, 5, 6, 1, 0] rfl ?_
    exact b_M_sell_74 hX  _ _ _ _ _ _ _ h
  · have h := h.2 q3
    refine g_iload_n hX d_M_sell_22 rfl 5 rfl ?_
    refine g_callS (k := 0) (n := 0) hX (c_M_noPerson h) hdT_M_noPerson hdO_M_noPerson t_3 t_882 t_883 ⟨⟨by decide, by decide⟩, np_M_noPerson⟩ ⟨Nat.le_of_ble_eq_true rfl, Nat.le_of_ble_eq_true rfl⟩ (Nat.le_of_ble_eq_true rfl) d_M_sell_23 rfl ?_ (fun _ _ z => z)
    rintro _ _ ⟨v6, σ7, rfl, rfl, h⟩
    refine g_if_ne (tgt := 74) hX d_M_sell_26 (by decide) (fun q8 => ?_) (fun q8 => ?_)
    · have h := h.1 q8
      refine g_sub [2, 3, 4, 5, 6, 1, 0] rfl ?_
      exact b_M_sell_74 hX  _ _ _ _ _ _ _ h
    · have h := h.2 q8
      refine g_iload hX d_M_sell_29 6 rfl ?_
      refine g_callS (k := 0) (n := 0) hX (c_M_noPerson h) hdT_M_noPerson hdO_M_noPerson t_3 t_882 t_883 ⟨⟨by decide, by decide⟩, np_M_noPerson⟩ ⟨Nat.le_of_ble_eq_true rfl, Nat.le_of_ble_eq_true rfl⟩ (Nat.le_of_ble_eq_true rfl) d_M_sell_31 rfl ?_ (fun _ _ z => z)
      rintro _ _ ⟨v9, σ10, rfl, rfl, h⟩
      refine g_if_ne (tgt := 74) hX d_M_sell_34 (by decide) (fun q11 => ?_) (fun q11 => ?_)
      · have h := h.1 q11
        refine g_sub [2, 3, 4, 5, 6, 1, 0] rfl ?_
        exact b_M_sell_74 hX  _ _ _ _ _ _ _ h
      · have h := h.2 q11
        refine g_iload_n hX d_M_sell_37 rfl 5 rfl ?_
        refine g_iload hX d_M_sell_38 6 rfl ?_
        refine g_icmp_eq (tgt := 74) hX d_M_sell_40 (by decide) (fun q12 => ?_) (fun q12 => ?_)
        · have h := h.1 q12
          refine g_sub [2, 3, 4, 5, 6, 1, 0] rfl ?_
          exact b_M_sell_74 hX  _ _ _ _ _ _ _ h
        · have h := h.2 q12
          refine g_lload hX d_M_sell_43 0 rfl ?_
          refine g_lconst (v := 1) hX d_M_sell_45 (by decide) ?_
          refine g_lcmp hX d_M_sell_46 ?_
          refine g_if_lt (tgt := 74) hX d_M_sell_47 (by decide) (fun q13 => ?_) (fun q13 => ?_)
          · have h := h.1 q13
            refine g_sub [2, 3, 4, 5, 6, 1, 0] rfl ?_
            exact b_M_sell_74 hX  _ _ _ _ _ _ _ h
          · have h := h.2 q13
            refine g_lload hX d_M_sell_50 0 rfl ?_
            refine g_ldc2 (v := 1000000) hX t_768 d_M_sell_52 ?_
            refine g_lcmp hX d_M_sell_55 ?_
            refine g_if_gt (tgt := 74) hX d_M_sell_56 (by decide) (fun q14 => ?_) (fun q14 => ?_)
            · have h := h.1 q14
              refine g_sub [2, 3, 4, 5, 6, 1, 0] rfl ?_
              exact b_M_sell_74 hX  _ _ _ _ _ _ _ h
            · have h := h.2 q14
              refine g_lload hX d_M_sell_59 1 rfl ?_
              refine g_lconst (v := 1) hX d_M_sell_61 (by decide) ?_
              refine g_lcmp hX d_M_sell_62 ?_
              refine g_if_lt (tgt := 74) hX d_M_sell_63 (by decide) (fun q15 => ?_) (fun q15 => ?_)
              · have h := h.1 q15
                refine g_sub [2, 3, 4, 5, 6, 1, 0] rfl ?_
                exact b_M_sell_74 hX  _ _ _ _ _ _ _ h
              · have h := h.2 q15
                refine g_lload hX d_M_sell_66 1 rfl ?_
                refine g_lload hX d_M_sell_68 0 rfl ?_
                refine g_lcmp hX d_M_sell_70 ?_
                refine g_if_le (tgt := 78) hX d_M_sell_71 (by decide) (fun q16 => ?_) (fun q16 => ?_)
                · have h := h.1 q16
                  refine g_iconst (v := 0) hX d_M_sell_78 (by decide) ?_
                  refine g_sub [2, 3, 4, 5, 6, 1, 0] rfl ?_
                  exact b_M_sell_79 hX  _ _ _ _ _ _ _ _ h
                · have h := h.2 q16
                  refine g_sub [2, 3, 4, 5, 6, 1, 0] rfl ?_
                  exact b_M_sell_74 hX  _ _ _ _ _ _ _ h

def wp_M_pledge_28 (Γ : Ev)  (post : Int32 → St → Prop) (thr : String → St → Prop) (x1 : Int32) (x2 : Int32) (x3 : Int32) (x4 : Int32) (s0 : Int32) (σ : St) : Prop := wp_M_file Γ (s0) (x1) ((2 : Int32)) (x2) (x3) (x4) ((0 : Int32)) (σ) (fun v4 σ5 => post v4 (σ5)) thr
def wp_M_pledge_23 (Γ : Ev)  (post : Int32 → St → Prop) (thr : String → St → Prop) (x1 : Int32) (x2 : Int32) (x3 : Int32) (x4 : Int32) (σ : St) : Prop := wp_M_pledge_28 Γ  post thr (x1) (x2) (x3) (x4) ((1 : Int32)) (σ)
def wp_M_pledge (Γ : Ev) (x1 : Int32) (x2 : Int32) (x3 : Int32) (x4 : Int32) (σ : St) (post : Int32 → St → Prop) (thr : String → St → Prop) : Prop := wp_M_noParcel Γ (x2) (σ) (fun v1 σ2 => ((¬ v1 = 0 → wp_M_pledge_23 Γ  post thr (x1) (x2) (x3) (x4) (σ2)) ∧ (v1 = 0 → wp_M_noPerson Γ (x3) (σ2) (fun v6 σ7 => ((¬ v6 = 0 → wp_M_pledge_23 Γ  post thr (x1) (x2) (x3) (x4) (σ7)) ∧ (v6 = 0 → wp_M_noAmount Γ (x4) (σ7) (fun v9 σ10 => ((v9 = 0 → wp_M_pledge_28 Γ  post thr (x1) (x2) (x3) (x4) ((0 : Int32)) (σ10)) ∧ (¬ v9 = 0 → wp_M_pledge_23 Γ  post thr (x1) (x2) (x3) (x4) (σ10)))) thr))) thr))) thr
abbrev rm_M_pledge : Room := { frames := 6, cells := 0, slots := 0, locals := 160 }
set_option maxRecDepth 100000 in
set_option maxHeartbeats 4000000 in
theorem b_M_pledge_28 {p : Program} {l : Launch} {e : Env} {s : State} {m : MethodId} {args : Array Value} {below : List Frame} {meth : Method} {c : Code} {D : va_G} {AC : Nat → ClassId} {lo : Nat} {Γ : Ev} {post : Int32 → St → Prop} {thr : String → St → Prop} (hX : Cx p s m args meth c y_M_pledge b_M_pledge 5 (some .int) [] D AC lo)   (x1 : Int32) (x2 : Int32) (x3 : Int32) (x4 : Int32) (s0 : Int32) (σ : St) (h : wp_M_pledge_28 Γ  post thr x1 x2 x3 x4 s0 σ) : G p l e rm_M_pledge s m args below meth c 5 D lo (pI AC Γ post) (tX AC Γ thr) (wσ AC Γ (σ)) 0 0 28 [(1, .int (x1)), (2, .int (x2)), (3, .int (x3)), (4, .int (x4))] [.int (s0), .ref (Γ.ad 324)] := by
  unfold wp_M_pledge_28 at h
  refine g_iload_n hX d_M_pledge_28 rfl 0 rfl ?_
  refine g_iconst (v := 2) hX d_M_pledge_29 (by decide) ?_
  refine g_iload_n hX d_M_pledge_30 rfl 1 rfl ?_
  refine g_iload_n hX d_M_pledge_31 rfl 2 rfl ?_
  refine g_iload hX d_M_pledge_32 3 rfl ?_
  refine g_iconst (v := 0) hX d_M_pledge_34 (by decide) ?_
  refine g_callV (i := 324) (k := 0) (n := 0) hX (c_M_file h) hdT_M_file hdO_M_file t_3 t_885 t_887 ts_M_file (lt_c (by decide)) rfl (lay_MO (AC := AC) (Γ := Γ)) rfl ⟨⟨by decide, by decide⟩, np_M_file⟩ ⟨Nat.le_of_ble_eq_true rfl, Nat.le_of_ble_eq_true rfl⟩ (Nat.le_of_ble_eq_true rfl) d_M_pledge_35 rfl ?_ (fun _ _ z => z)
  rintro _ _ ⟨v4, σ5, rfl, rfl, h⟩
  exact g_iret hX rfl d_M_pledge_38 ⟨_, _, rfl, rfl, h⟩
set_option maxRecDepth 100000 in
set_option maxHeartbeats 4000000 in
theorem b_M_pledge_23 {p : Program} {l : Launch} {e : Env} {s : State} {m : MethodId} {args : Array Value} {below : List Frame} {meth : Method} {c : Code} {D : va_G} {AC : Nat → ClassId} {lo : Nat} {Γ : Ev} {post : Int32 → St → Prop} {thr : String → St → Prop} (hX : Cx p s m args meth c y_M_pledge b_M_pledge 5 (some .int) [] D AC lo)   (x1 : Int32) (x2 : Int32) (x3 : Int32) (x4 : Int32) (σ : St) (h : wp_M_pledge_23 Γ  post thr x1 x2 x3 x4 σ) : G p l e rm_M_pledge s m args below meth c 5 D lo (pI AC Γ post) (tX AC Γ thr) (wσ AC Γ (σ)) 0 0 23 [(1, .int (x1)), (2, .int (x2)), (3, .int (x3)), (4, .int (x4))] [.ref (Γ.ad 324)] := by
  unfold wp_M_pledge_23 at h
  refine g_iconst (v := 1) hX d_M_pledge_23 (by decide) ?_
  refine g_goto (tgt := 28) hX d_M_pledge_24 (by decide) ?_
  refine g_sub [0, 1, 2, 3] rfl ?_
  exact b_M_pledge_28 hX  _ _ _ _ _ _ h
set_option maxRecDepth 100000 in
set_option maxHeartbeats 4000000 in
theorem c_M_pledge {l : Launch} {D : va_G} {AC : Nat → ClassId} {lo : Nat} {Γ : Ev} {x1 : Int32} {x2 : Int32} {x3 : Int32} {x4 : Int32} {σ : St} {post : Int32 → St → Prop} {thr : String → St → Prop} (h : wp_M_pledge Γ x1 x2 x3 x4 σ post thr) : Ct l y_M_pledge hd_M_pledge rm_M_pledge D AC lo [.ref (Γ.ad 324), .int (x1), .int (x2), .int (x3), .int (x4)] (wσ AC Γ σ) (pI AC Γ post) (tX AC Γ thr) := by
  refine Ct.of (by decide) (Nat.le_of_ble_eq_true rfl) ?_
  intro p e s m args below meth c hadm hX
  unfold wp_M_pledge at h
  show G p l e rm_M_pledge s m args below meth c 5 D lo (pI AC Γ post) (tX AC Γ thr) (wσ AC Γ (σ)) 0 0 0 [(0, .ref (Γ.ad 324)), (1, .int (x1)), (2, .int (x2)), (3, .int (x3)), (4, .int (x4))] []
  refine g_aload_n hX d_M_pledge_0 rfl 0 rfl ?_
  refine g_iload_n hX d_M_pledge_1 rfl 2 rfl ?_
  refine g_callS (k := 0) (n := 0) hX (c_M_noParcel h) hdT_M_noParcel hdO_M_noParcel t_3 t_894 t_895 ⟨⟨by decide, by decide⟩, np_M_noParcel⟩ ⟨Nat.le_of_ble_eq_true rfl, Nat.le_of_ble_eq_true rfl⟩ (Nat.le_of_ble_eq_true rfl) d_M_pledge_2 rfl ?_ (fun _ _ z => z)
  rintro _ _ ⟨v1, σ2, rfl, rfl, h⟩
  refine g_if_ne (tgt := 23) hX d_M_pledge_5 (by decide) (fun q3 => ?_) (fun q3 => ?_)
  · have h := h.1 q3
    refine g_sub [1, 2, 3, 4] rfl ?_
    exact b_M_pledge_23 hX  _ _ _ _ _ h
  · have h := h.2 q3
    refine g_iload_n hX d_M_pledge_8 rfl 3 rfl ?_
    refine g_callS (k := 0) (n := 0) hX (c_M_noPerson h) hdT_M_noPerson hdO_M_noPerson t_3 t_882 t_883 ⟨⟨by decide, by decide⟩, np_M_noPerson⟩ ⟨Nat.le_of_ble_eq_true rfl, Nat.le_of_ble_eq_true rfl⟩ (Nat.le_of_ble_eq_true rfl) d_M_pledge_9 rfl ?_ (fun _ _ z => z)
    rintro _ _ ⟨v6, σ7, rfl, rfl, h⟩
    refine g_if_ne (tgt := 23) hX d_M_pledge_12 (by decide) (fun q8 => ?_) (fun q8 => ?_)
    · have h := h.1 q8
      refine g_sub [1, 2, 3, 4] rfl ?_
      exact b_M_pledge_23 hX  _ _ _ _ _ h
    · have h := h.2 q8
      refine g_iload hX d_M_pledge_15 4 rfl ?_
      refine g_callS (k := 0) (n := 0) hX (c_M_noAmount h) hdT_M_noAmount hdO_M_noAmount t_3 t_878 t_879 ⟨⟨by decide, by decide⟩, np_M_noAmount⟩ ⟨Nat.le_of_ble_eq_true rfl, Nat.le_of_ble_eq_true rfl⟩ (Nat.le_of_ble_eq_true rfl) d_M_pledge_17 rfl ?_ (fun _ _ z => z)
      rintro _ _ ⟨v9, σ10, rfl, rfl, h⟩
      refine g_if_eq (tgt := 27) hX d_M_pledge_20 (by decide) (fun q11 => ?_) (fun q11 => ?_)
      · have h := h.1 q11
        refine g_iconst (v := 0) hX d_M_pledge_27 (by decide) ?_
        refine g_sub [1, 2, 3, 4] rfl ?_
        exact b_M_pledge_28 hX  _ _ _ _ _ _ h
      · have h := h.2 q11
        refine g_sub [1, 2, 3, 4] rfl ?_
        exact b_M_pledge_23 hX  _ _ _ _ _ h

def wp_M_rerank_41 (Γ : Ev)  (post : Int32 → St → Prop) (thr : String → St → Prop) (x1 : Int32) (x2 : Int32) (x3 : Int32) (x4 : Int32) (x5 : Int32) (s0 : Int32) (σ : St) : Prop := wp_M_file Γ (s0) (x1) ((3 : Int32)) (x2) (x3) (x4) (x5) (σ) (fun v4 σ5 => post v4 (σ5)) thr
def wp_M_rerank_36 (Γ : Ev)  (post : Int32 → St → Prop) (thr : String → St → Prop) (x1 : Int32) (x2 : Int32) (x3 : Int32) (x4 : Int32) (x5 : Int32) (σ : St) : Prop := wp_M_rerank_41 Γ  post thr (x1) (x2) (x3) (x4) (x5) ((1 : Int32)) (σ)
def wp_M_rerank (Γ : Ev) (x1 : Int32) (x2 : Int32) (x3 : Int32) (x4 : Int32) (x5 : Int32) (σ : St) (post : Int32 → St → Prop) (thr : String → St → Prop) : Prop := wp_M_noParcel Γ (x2) (σ) (fun v1 σ2 => ((¬ v1 = 0 → wp_M_rerank_36 Γ  post thr (x1) (x2) (x3) (x4) (x5) (σ2)) ∧ (v1 = 0 → ((x3 < (1 : Int32) → wp_M_rerank_36 Γ  post thr (x1) (x2) (x3) (x4) (x5) (σ2)) ∧ (¬ x3 < (1 : Int32) → (((4 : Int32) < x3 → wp_M_rerank_36 Γ  post thr (x1) (x2) (x3) (x4) (x5) (σ2)) ∧ (¬ (4 : Int32) < x3 → ((x4 < (1 : Int32) → wp_M_rerank_36 Γ  post thr (x1) (x2) (x3) (x4) (x5) (σ2)) ∧ (¬ x4 < (1 : Int32) → (((4 : Int32) < x4 → wp_M_rerank_36 Γ  post thr (x1) (x2) (x3) (x4) (x5) (σ2)) ∧ (¬ (4 : Int32) < x4 → ((¬ x3 = x4 → wp_M_rerank_41 Γ  post thr (x1) (x2) (x3) (x4) (x5) ((0 : Int32)) (σ2)) ∧ (x3 = x4 → wp_M_rerank_36 Γ  post thr (x1) (x2) (x3) (x4) (x5) (σ2)))))))))))))) thr
abbrev rm_M_rerank : Room := { frames := 6, cells := 0, slots := 0, locals := 160 }
set_option maxRecDepth 100000 in
set_option maxHeartbeats 4000000 in
theorem b_M_rerank_41 {p : Program} {l : Launch} {e : Env} {s : State} {m : MethodId} {args : Array Value} {below : List Frame} {meth : Method} {c : Code} {D : va_G} {AC : Nat → ClassId} {lo : Nat} {Γ : Ev} {post : Int32 → St → Prop} {thr : String → St → Prop} (hX : Cx p s m args meth c y_M_rerank b_M_rerank 6 (some .int) [] D AC lo)   (x1 : Int32) (x2 : Int32) (x3 : Int32) (x4 : Int32) (x5 : Int32) (s0 : Int32) (σ : St) (h : wp_M_rerank_41 Γ  post thr x1 x2 x3 x4 x5 s0 σ) : G p l e rm_M_rerank s m args below meth c 6 D lo (pI AC Γ post) (tX AC Γ thr) (wσ AC Γ (σ)) 0 0 41 [(1, .int (x1)), (2, .int (x2)), (3, .int (x3)), (4, .int (x4)), (5, .int (x5))] [.int (s0), .ref (Γ.ad 324)] := by
  unfold wp_M_rerank_41 at h
  refine g_iload_n hX d_M_rerank_41 rfl 0 rfl ?_
  refine g_iconst (v := 3) hX d_M_rerank_42 (by decide) ?_
  refine g_iload_n hX d_M_rerank_43 rfl 1 rfl ?_
  refine g_iload_n hX d_M_rerank_44 rfl 2 rfl ?_
  refine g_iload hX d_M_rerank_45 3 rfl ?_
  refine g_iload hX d_M_rerank_47 4 rfl ?_
  refine g_callV (i := 324) (k := 0) (n := 0) hX (c_M_file h) hdT_M_file hdO_M_file t_3 t_885 t_887 ts_M_file (lt_c (by decide)) rfl (lay_MO (AC := AC) (Γ := Γ)) rfl ⟨⟨by decide, by decide⟩, np_M_file⟩ ⟨Nat.le_of_ble_eq_true rfl, Nat.le_of_ble_eq_true rfl⟩ (Nat.le_of_ble_eq_true rfl) d_M_rerank_49 rfl ?_ (fun _ _ z => z)
  rintro _ _ ⟨v4, σ5, rfl, rfl, h⟩
  exact g_iret hX rfl d_M_rerank_52 ⟨_, _, rfl, rfl, h⟩
set_option maxRecDepth 100000 in
set_option maxHeartbeats 4000000 in
theorem b_M_rerank_36 {p : Program} {l : Launch} {e : Env} {s : State} {m : MethodId} {args : Array Value} {below : List Frame} {meth : Method} {c : Code} {D : va_G} {AC : Nat → ClassId} {lo : Nat} {Γ : Ev} {post : Int32 → St → Prop} {thr : String → St → Prop} (hX : Cx p s m args meth c y_M_rerank b_M_rerank 6 (some .int) [] D AC lo)   (x1 : Int32) (x2 : Int32) (x3 : Int32) (x4 : Int32) (x5 : Int32) (σ : St) (h : wp_M_rerank_36 Γ  post thr x1 x2 x3 x4 x5 σ) : G p l e rm_M_rerank s m args below meth c 6 D lo (pI AC Γ post) (tX AC Γ thr) (wσ AC Γ (σ)) 0 0 36 [(1, .int (x1)), (2, .int (x2)), (3, .int (x3)), (4, .int (x4)), (5, .int (x5))] [.ref (Γ.ad 324)] := by
  unfold wp_M_rerank_36 at h
  refine g_iconst (v := 1) hX d_M_rerank_36 (by decide) ?_
  refine g_goto (tgt := 41) hX d_M_rerank_37 (by decide) ?_
  refine g_sub [0, 1, 2, 3, 4] rfl ?_
  exact b_M_rerank_41 hX  _ _ _ _ _ _ _ h
set_option maxRecDepth 100000 in
set_option maxHeartbeats 4000000 in
theorem c_M_rerank {l : Launch} {D : va_G} {AC : Nat → ClassId} {lo : Nat} {Γ : Ev} {x1 : Int32} {x2 : Int32} {x3 : Int32} {x4 : Int32} {x5 : Int32} {σ : St} {post : Int32 → St → Prop} {thr : String → St → Prop} (h : wp_M_rerank Γ x1 x2 x3 x4 x5 σ post thr) : Ct l y_M_rerank hd_M_rerank rm_M_rerank D AC lo [.ref (Γ.ad 324), .int (x1), .int (x2), .int (x3), .int (x4), .int (x5)] (wσ AC Γ σ) (pI AC Γ post) (tX AC Γ thr) := by
  refine Ct.of (by decide) (Nat.le_of_ble_eq_true rfl) ?_
  intro p e s m args below meth c hadm hX
  unfold wp_M_rerank at h
  show G p l e rm_M_rerank s m args below meth c 6 D lo (pI AC Γ post) (tX AC Γ thr) (wσ AC Γ (σ)) 0 0 0 [(0, .ref (Γ.ad 324)), (1, .int (x1)), (2, .int (x2)), (3, .int (x3)), (4, .int (x4)), (5, .int (x5))] []
  refine g_aload_n hX d_M_rerank_0 rfl 0 rfl ?_
  refine g_iload_n hX d_M_rerank_1 rfl 2 rfl ?_
  refine g_callS (k := 0) (n := 0) hX (c_M_noParcel h) hdT_M_noParcel hdO_M_noParcel t_3 t_894 t_895 ⟨⟨by decide, by decide⟩, np_M_noParcel⟩ ⟨Nat.le_of_ble_eq_true rfl, Nat.le_of_ble_eq_true rfl⟩ (Nat.le_of_ble_eq_true rfl) d_M_rerank_2 rfl ?_ (fun _ _ z => z)
  rintro _ _ ⟨v1, σ2, rfl, rfl, h⟩
  refine g_if_ne (tgt := 36) hX d_M_rerank_5 (by decide) (fun q3 => ?_) (fun q3 => ?_)
  · have h := h.1 q3
    refine g_sub [1, 2, 3, 4, 5] rfl ?_
    exact b_M_rerank_36 hX  _ _ _ _ _ _ h
  · have h := h.2 q3
    refine g_iload_n hX d_M_rerank_8 rfl 3 rfl ?_
    refine g_iconst (v := 1) hX d_M_rerank_9 (by decide) ?_
    refine g_icmp_lt (tgt := 36) hX d_M_rerank_10 (by decide) (fun q6 => ?_) (fun q6 => ?_)
    · have h := h.1 q6
      refine g_sub [1, 2, 3, 4, 5] rfl ?_
      exact b_M_rerank_36 hX  _ _ _ _ _ _ h
    · have h := h.2 q6
      refine g_iload_n hX d_M_rerank_13 rfl 3 rfl ?_
      refine g_iconst (v := 4) hX d_M_rerank_14 (by decide) ?_
      refine g_icmp_gt (tgt := 36) hX d_M_rerank_15 (by decide) (fun q7 => ?_) (fun q7 => ?_)
      · have h := h.1 q7
        refine g_sub [1, 2, 3, 4, 5] rfl ?_
        exact b_M_rerank_36 hX  _ _ _ _ _ _ h
      · have h := h.2 q7
        refine g_iload hX d_M_rerank_18 4 rfl ?_
        refine g_iconst (v := 1) hX d_M_rerank_20 (by decide) ?_
        refine g_icmp_lt (tgt := 36) hX d_M_rerank_21 (by decide) (fun q8 => ?_) (fun q8 => ?_)
        · have h := h.1 q8
          refine g_sub [1, 2, 3, 4, 5] rfl ?_
          exact b_M_rerank_36 hX  _ _ _ _ _ _ h
        · have h := h.2 q8
          refine g_iload hX d_M_rerank_24 4 rfl ?_
          refine g_iconst (v := 4) hX d_M_rerank_26 (by decide) ?_
          refine g_icmp_gt (tgt := 36) hX d_M_rerank_27 (by decide) (fun q9 => ?_) (fun q9 => ?_)
          · have h := h.1 q9
            refine g_sub [1, 2, 3, 4, 5] rfl ?_
            exact b_M_rerank_36 hX  _ _ _ _ _ _ h
          · have h := h.2 q9
            refine g_iload_n hX d_M_rerank_30 rfl 3 rfl ?_
            refine g_iload hX d_M_rerank_31 4 rfl ?_
            refine g_icmp_ne (tgt := 40) hX d_M_rerank_33 (by decide) (fun q10 => ?_) (fun q10 => ?_)
            · have h := h.1 q10
              refine g_iconst (v := 0) hX d_M_rerank_40 (by decide) ?_
              refine g_sub [1, 2, 3, 4, 5] rfl ?_
              exact b_M_rerank_41 hX  _ _ _ _ _ _ _ h
            · have h := h.2 q10
              refine g_sub [1, 2, 3, 4, 5] rfl ?_
              exact b_M_rerank_36 hX  _ _ _ _ _ _ h

def wp_M_release_23 (Γ : Ev)  (post : Int32 → St → Prop) (thr : String → St → Prop) (x1 : Int32) (x2 : Int32) (x3 : Int32) (s0 : Int32) (σ : St) : Prop := wp_M_file Γ (s0) (x1) ((4 : Int32)) (x2) (x3) ((0 : Int32)) ((0 : Int32)) (σ) (fun v4 σ5 => post v4 (σ5)) thr
def wp_M_release_18 (Γ : Ev)  (post : Int32 → St → Prop) (thr : String → St → Prop) (x1 : Int32) (x2 : Int32) (x3 : Int32) (σ : St) : Prop := wp_M_release_23 Γ  post thr (x1) (x2) (x3) ((1 : Int32)) (σ)
def wp_M_release (Γ : Ev) (x1 : Int32) (x2 : Int32) (x3 : Int32) (σ : St) (post : Int32 → St → Prop) (thr : String → St → Prop) : Prop := wp_M_noParcel Γ (x2) (σ) (fun v1 σ2 => ((¬ v1 = 0 → wp_M_release_18 Γ  post thr (x1) (x2) (x3) (σ2)) ∧ (v1 = 0 → ((x3 < (1 : Int32) → wp_M_release_18 Γ  post thr (x1) (x2) (x3) (σ2)) ∧ (¬ x3 < (1 : Int32) → ((x3 ≤ (4 : Int32) → wp_M_release_23 Γ  post thr (x1) (x2) (x3) ((0 : Int32)) (σ2)) ∧ (¬ x3 ≤ (4 : Int32) → wp_M_release_18 Γ  post thr (x1) (x2) (x3) (σ2)))))))) thr
abbrev rm_M_release : Room := { frames := 6, cells := 0, slots := 0, locals := 160 }
set_option maxRecDepth 100000 in
set_option maxHeartbeats 4000000 in
theorem b_M_release_23 {p : Program} {l : Launch} {e : Env} {s : State} {m : MethodId} {args : Array Value} {below : List Frame} {meth : Method} {c : Code} {D : va_G} {AC : Nat → ClassId} {lo : Nat} {Γ : Ev} {post : Int32 → St → Prop} {thr : String → St → Prop} (hX : Cx p s m args meth c y_M_release b_M_release 4 (some .int) [] D AC lo)   (x1 : Int32) (x2 : Int32) (x3 : Int32) (s0 : Int32) (σ : St) (h : wp_M_release_23 Γ  post thr x1 x2 x3 s0 σ) : G p l e rm_M_release s m args below meth c 4 D lo (pI AC Γ post) (tX AC Γ thr) (wσ AC Γ (σ)) 0 0 23 [(1, .int (x1)), (2, .int (x2)), (3, .int (x3))] [.int (s0), .ref (Γ.ad 324)] := by
  unfold wp_M_release_23 at h
  refine g_iload_n hX d_M_release_23 rfl 0 rfl ?_
  refine g_iconst (v := 4) hX d_M_release_24 (by decide) ?_
  refine g_iload_n hX d_M_release_25 rfl 1 rfl ?_
  refine g_iload_n hX d_M_release_26 rfl 2 rfl ?_
  refine g_iconst (v := 0) hX d_M_release_27 (by decide) ?_
  refine g_iconst (v := 0) hX d_M_release_28 (by decide) ?_
  refine g_callV (i := 324) (k := 0) (n := 0) hX (c_M_file h) hdT_M_file hdO_M_file t_3 t_885 t_887 ts_M_file (lt_c (by decide)) rfl (lay_MO (AC := AC) (Γ := Γ)) rfl ⟨⟨by decide, by decide⟩, np_M_file⟩ ⟨Nat.le_of_ble_eq_true rfl, Nat.le_of_ble_eq_true rfl⟩ (Nat.le_of_ble_eq_true rfl) d_M_release_29 rfl ?_ (fun _ _ z => z)
  rintro _ _ ⟨v4, σ5, rfl, rfl, h⟩
  exact g_iret hX rfl d_M_release_32 ⟨_, _, rfl, rfl, h⟩
set_option maxRecDepth 100000 in
set_option maxHeartbeats 4000000 in
theorem b_M_release_18 {p : Program} {l : Launch} {e : Env} {s : State} {m : MethodId} {args : Array Value} {below : List Frame} {meth : Method} {c : Code} {D : va_G} {AC : Nat → ClassId} {lo : Nat} {Γ : Ev} {post : Int32 → St → Prop} {thr : String → St → Prop} (hX : Cx p s m args meth c y_M_release b_M_release 4 (some .int) [] D AC lo)   (x1 : Int32) (x2 : Int32) (x3 : Int32) (σ : St) (h : wp_M_release_18 Γ  post thr x1 x2 x3 σ) : G p l e rm_M_release s m args below meth c 4 D lo (pI AC Γ post) (tX AC Γ thr) (wσ AC Γ (σ)) 0 0 18 [(1, .int (x1)), (2, .int (x2)), (3, .int (x3))] [.ref (Γ.ad 324)] := by
  unfold wp_M_release_18 at h
  refine g_iconst (v := 1) hX d_M_release_18 (by decide) ?_
  refine g_goto (tgt := 23) hX d_M_release_19 (by decide) ?_
  refine g_sub [0, 1, 2] rfl ?_
  exact b_M_release_23 hX  _ _ _ _ _ h
set_option maxRecDepth 100000 in
set_option maxHeartbeats 4000000 in
theorem c_M_release {l : Launch} {D : va_G} {AC : Nat → ClassId} {lo : Nat} {Γ : Ev} {x1 : Int32} {x2 : Int32} {x3 : Int32} {σ : St} {post : Int32 → St → Prop} {thr : String → St → Prop} (h : wp_M_release Γ x1 x2 x3 σ post thr) : Ct l y_M_release hd_M_release rm_M_release D AC lo [.ref (Γ.ad 324), .int (x1), .int (x2), .int (x3)] (wσ AC Γ σ) (pI AC Γ post) (tX AC Γ thr) := by
  refine Ct.of (by decide) (Nat.le_of_ble_eq_true rfl) ?_
  intro p e s m args below meth c hadm hX
  unfold wp_M_release at h
  show G p l e rm_M_release s m args below meth c 4 D lo (pI AC Γ post) (tX AC Γ thr) (wσ AC Γ (σ)) 0 0 0 [(0, .ref (Γ.ad 324)), (1, .int (x1)), (2, .int (x2)), (3, .int (x3))] []
  refine g_aload_n hX d_M_release_0 rfl 0 rfl ?_
  refine g_iload_n hX d_M_release_1 rfl 2 rfl ?_
  refine g_callS (k := 0) (n := 0) hX (c_M_noParcel h) hdT_M_noParcel hdO_M_noParcel t_3 t_894 t_895 ⟨⟨by decide, by decide⟩, np_M_noParcel⟩ ⟨Nat.le_of_ble_eq_true rfl, Nat.le_of_ble_eq_true rfl⟩ (Nat.le_of_ble_eq_true rfl) d_M_release_2 rfl ?_ (fun _ _ z => z)
  rintro _ _ ⟨v1, σ2, rfl, rfl, h⟩
  refine g_if_ne (tgt := 18) hX d_M_release_5 (by decide) (fun q3 => ?_) (fun q3 => ?_)
  · have h := h.1 q3
    refine g_sub [1, 2, 3] rfl ?_
    exact b_M_release_18 hX  _ _ _ _ h
  · have h := h.2 q3
    refine g_iload_n hX d_M_release_8 rfl 3 rfl ?_
    refine g_iconst (v := 1) hX d_M_release_9 (by decide) ?_
    refine g_icmp_lt (tgt := 18) hX d_M_release_10 (by decide) (fun q6 => ?_) (fun q6 => ?_)
    · have h := h.1 q6
      refine g_sub [1, 2, 3] rfl ?_
      exact b_M_release_18 hX  _ _ _ _ h
    · have h := h.2 q6
      refine g_iload_n hX d_M_release_13 rfl 3 rfl ?_
      refine g_iconst (v := 4) hX d_M_release_14 (by decide) ?_
      refine g_icmp_le (tgt := 22) hX d_M_release_15 (by decide) (fun q7 => ?_) (fun q7 => ?_)
      · have h := h.1 q7
        refine g_iconst (v := 0) hX d_M_release_22 (by decide) ?_
        refine g_sub [1, 2, 3] rfl ?_
        exact b_M_release_23 hX  _ _ _ _ _ h
      · have h := h.2 q7
        refine g_sub [1, 2, 3] rfl ?_
        exact b_M_release_18 hX  _ _ _ _ h

def wp_M_caution_20 (Γ : Ev)  (post : Int32 → St → Prop) (thr : String → St → Prop) (x1 : Int32) (x2 : Int32) (x3 : Int32) (s0 : Int32) (σ : St) : Prop := wp_M_file Γ (s0) (x1) ((5 : Int32)) (x2) (x3) ((0 : Int32)) ((0 : Int32)) (σ) (fun v4 σ5 => post v4 (σ5)) thr
def wp_M_caution_15 (Γ : Ev)  (post : Int32 → St → Prop) (thr : String → St → Prop) (x1 : Int32) (x2 : Int32) (x3 : Int32) (σ : St) : Prop := wp_M_caution_20 Γ  post thr (x1) (x2) (x3) ((1 : Int32)) (σ)
def wp_M_caution (Γ : Ev) (x1 : Int32) (x2 : Int32) (x3 : Int32) (σ : St) (post : Int32 → St → Prop) (thr : String → St → Prop) : Prop := wp_M_noParcel Γ (x2) (σ) (fun v1 σ2 => ((¬ v1 = 0 → wp_M_caution_15 Γ  post thr (x1) (x2) (x3) (σ2)) ∧ (v1 = 0 → wp_M_noPerson Γ (x3) (σ2) (fun v6 σ7 => ((v6 = 0 → wp_M_caution_20 Γ  post thr (x1) (x2) (x3) ((0 : Int32)) (σ7)) ∧ (¬ v6 = 0 → wp_M_caution_15 Γ  post thr (x1) (x2) (x3) (σ7)))) thr))) thr
abbrev rm_M_caution : Room := { frames := 6, cells := 0, slots := 0, locals := 160 }
set_option maxRecDepth 100000 in
set_option maxHeartbeats 4000000 in
theorem b_M_caution_20 {p : Program} {l : Launch} {e : Env} {s : State} {m : MethodId} {args : Array Value} {below : List Frame} {meth : Method} {c : Code} {D : va_G} {AC : Nat → ClassId} {lo : Nat} {Γ : Ev} {post : Int32 → St → Prop} {thr : String → St → Prop} (hX : Cx p s m args meth c y_M_caution b_M_caution 4 (some .int) [] D AC lo)   (x1 : Int32) (x2 : Int32) (x3 : Int32) (s0 : Int32) (σ : St) (h : wp_M_caution_20 Γ  post thr x1 x2 x3 s0 σ) : G p l e rm_M_caution s m args below meth c 4 D lo (pI AC Γ post) (tX AC Γ thr) (wσ AC Γ (σ)) 0 0 20 [(1, .int (x1)), (2, .int (x2)), (3, .int (x3))] [.int (s0), .ref (Γ.ad 324)] := by
  unfold wp_M_caution_20 at h
  refine g_iload_n hX d_M_caution_20 rfl 0 rfl ?_
  refine g_iconst (v := 5) hX d_M_caution_21 (by decide) ?_
  refine g_iload_n hX d_M_caution_22 rfl 1 rfl ?_
  refine g_iload_n hX d_M_caution_23 rfl 2 rfl ?_
  refine g_iconst (v := 0) hX d_M_caution_24 (by decide) ?_
  refine g_iconst (v := 0) hX d_M_caution_25 (by decide) ?_
  refine g_callV (i := 324) (k := 0) (n := 0) hX (c_M_file h) hdT_M_file hdO_M_file t_3 t_885 t_887 ts_M_file (lt_c (by decide)) rfl (lay_MO (AC := AC) (Γ := Γ)) rfl ⟨⟨by decide, by decide⟩, np_M_file⟩ ⟨Nat.le_of_ble_eq_true rfl, Nat.le_of_ble_eq_true rfl⟩ (Nat.le_of_ble_eq_true rfl) d_M_caution_26 rfl ?_ (fun _ _ z => z)
  rintro _ _ ⟨v4, σ5, rfl, rfl, h⟩
  exact g_iret hX rfl d_M_caution_29 ⟨_, _, rfl, rfl, h⟩
set_option maxRecDepth 100000 in
set_option maxHeartbeats 4000000 in
theorem b_M_caution_15 {p : Program} {l : Launch} {e : Env} {s : State} {m : MethodId} {args : Array Value} {below : List Frame} {meth : Method} {c : Code} {D : va_G} {AC : Nat → ClassId} {lo : Nat} {Γ : Ev} {post : Int32 → St → Prop} {thr : String → St → Prop} (hX : Cx p s m args meth c y_M_caution b_M_caution 4 (some .int) [] D AC lo)   (x1 : Int32) (x2 : Int32) (x3 : Int32) (σ : St) (h : wp_M_caution_15 Γ  post thr x1 x2 x3 σ) : G p l e rm_M_caution s m args below meth c 4 D lo (pI AC Γ post) (tX AC Γ thr) (wσ AC Γ (σ)) 0 0 15 [(1, .int (x1)), (2, .int (x2)), (3, .int (x3))] [.ref (Γ.ad 324)] := by
  unfold wp_M_caution_15 at h
  refine g_iconst (v := 1) hX d_M_caution_15 (by decide) ?_
  refine g_goto (tgt := 20) hX d_M_caution_16 (by decide) ?_
  refine g_sub [0, 1, 2] rfl ?_
  exact b_M_caution_20 hX  _ _ _ _ _ h
set_option maxRecDepth 100000 in
set_option maxHeartbeats 4000000 in
theorem c_M_caution {l : Launch} {D : va_G} {AC : Nat → ClassId} {lo : Nat} {Γ : Ev} {x1 : Int32} {x2 : Int32} {x3 : Int32} {σ : St} {post : Int32 → St → Prop} {thr : String → St → Prop} (h : wp_M_caution Γ x1 x2 x3 σ post thr) : Ct l y_M_caution hd_M_caution rm_M_caution D AC lo [.ref (Γ.ad 324), .int (x1), .int (x2), .int (x3)] (wσ AC Γ σ) (pI AC Γ post) (tX AC Γ thr) := by
  refine Ct.of (by decide) (Nat.le_of_ble_eq_true rfl) ?_
  intro p e s m args below meth c hadm hX
  unfold wp_M_caution at h
  show G p l e rm_M_caution s m args below meth c 4 D lo (pI AC Γ post) (tX AC Γ thr) (wσ AC Γ (σ)) 0 0 0 [(0, .ref (Γ.ad 324)), (1, .int (x1)), (2, .int (x2)), (3, .int (x3))] []
  refine g_aload_n hX d_M_caution_0 rfl 0 rfl ?_
  refine g_iload_n hX d_M_caution_1 rfl 2 rfl ?_
  refine g_callS (k := 0) (n := 0) hX (c_M_noParcel h) hdT_M_noParcel hdO_M_noParcel t_3 t_894 t_895 ⟨⟨by decide, by decide⟩, np_M_noParcel⟩ ⟨Nat.le_of_ble_eq_true rfl, Nat.le_of_ble_eq_true rfl⟩ (Nat.le_of_ble_eq_true rfl) d_M_caution_2 rfl ?_ (fun _ _ z => z)
  rintro _ _ ⟨v1, σ2, rfl, rfl, h⟩
  refine g_if_ne (tgt := 15) hX d_M_caution_5 (by decide) (fun q3 => ?_) (fun q3 => ?_)
  · have h := h.1 q3
    refine g_sub [1, 2, 3] rfl ?_
    exact b_M_caution_15 hX  _ _ _ _ h
  · have h := h.2 q3
    refine g_iload_n hX d_M_caution_8 rfl 3 rfl ?_
    refine g_callS (k := 0) (n := 0) hX (c_M_noPerson h) hdT_M_noPerson hdO_M_noPerson t_3 t_882 t_883 ⟨⟨by decide, by decide⟩, np_M_noPerson⟩ ⟨Nat.le_of_ble_eq_true rfl, Nat.le_of_ble_eq_true rfl⟩ (Nat.le_of_ble_eq_true rfl) d_M_caution_9 rfl ?_ (fun _ _ z => z)
    rintro _ _ ⟨v6, σ7, rfl, rfl, h⟩
    refine g_if_eq (tgt := 19) hX d_M_caution_12 (by decide) (fun q8 => ?_) (fun q8 => ?_)
    · have h := h.1 q8
      refine g_iconst (v := 0) hX d_M_caution_19 (by decide) ?_
      refine g_sub [1, 2, 3] rfl ?_
      exact b_M_caution_20 hX  _ _ _ _ _ h
    · have h := h.2 q8
      refine g_sub [1, 2, 3] rfl ?_
      exact b_M_caution_15 hX  _ _ _ _ h

def wp_M_lift_20 (Γ : Ev)  (post : Int32 → St → Prop) (thr : String → St → Prop) (x1 : Int32) (x2 : Int32) (x3 : Int32) (s0 : Int32) (σ : St) : Prop := wp_M_file Γ (s0) (x1) ((6 : Int32)) (x2) (x3) ((0 : Int32)) ((0 : Int32)) (σ) (fun v4 σ5 => post v4 (σ5)) thr
def wp_M_lift_15 (Γ : Ev)  (post : Int32 → St → Prop) (thr : String → St → Prop) (x1 : Int32) (x2 : Int32) (x3 : Int32) (σ : St) : Prop := wp_M_lift_20 Γ  post thr (x1) (x2) (x3) ((1 : Int32)) (σ)
def wp_M_lift (Γ : Ev) (x1 : Int32) (x2 : Int32) (x3 : Int32) (σ : St) (post : Int32 → St → Prop) (thr : String → St → Prop) : Prop := wp_M_noParcel Γ (x2) (σ) (fun v1 σ2 => ((¬ v1 = 0 → wp_M_lift_15 Γ  post thr (x1) (x2) (x3) (σ2)) ∧ (v1 = 0 → wp_M_noPerson Γ (x3) (σ2) (fun v6 σ7 => ((v6 = 0 → wp_M_lift_20 Γ  post thr (x1) (x2) (x3) ((0 : Int32)) (σ7)) ∧ (¬ v6 = 0 → wp_M_lift_15 Γ  post thr (x1) (x2) (x3) (σ7)))) thr))) thr
abbrev rm_M_lift : Room := { frames := 6, cells := 0, slots := 0, locals := 160 }
set_option maxRecDepth 100000 in
set_option maxHeartbeats 4000000 in
theorem b_M_lift_20 {p : Program} {l : Launch} {e : Env} {s : State} {m : MethodId} {args : Array Value} {below : List Frame} {meth : Method} {c : Code} {D : va_G} {AC : Nat → ClassId} {lo : Nat} {Γ : Ev} {post : Int32 → St → Prop} {thr : String → St → Prop} (hX : Cx p s m args meth c y_M_lift b_M_lift 4 (some .int) [] D AC lo)   (x1 : Int32) (x2 : Int32) (x3 : Int32) (s0 : Int32) (σ : St) (h : wp_M_lift_20 Γ  post thr x1 x2 x3 s0 σ) : G p l e rm_M_lift s m args below meth c 4 D lo (pI AC Γ post) (tX AC Γ thr) (wσ AC Γ (σ)) 0 0 20 [(1, .int (x1)), (2, .int (x2)), (3, .int (x3))] [.int (s0), .ref (Γ.ad 324)] := by
  unfold wp_M_lift_20 at h
  refine g_iload_n hX d_M_lift_20 rfl 0 rfl ?_
  refine g_bipush (v := 6) hX d_M_lift_21 (by decide) ?_
  refine g_iload_n hX d_M_lift_23 rfl 1 rfl ?_
  refine g_iload_n hX d_M_lift_24 rfl 2 rfl ?_
  refine g_iconst (v := 0) hX d_M_lift_25 (by decide) ?_
  refine g_iconst (v := 0) hX d_M_lift_26 (by decide) ?_
  refine g_callV (i := 324) (k := 0) (n := 0) hX (c_M_file h) hdT_M_file hdO_M_file t_3 t_885 t_887 ts_M_file (lt_c (by decide)) rfl (lay_MO (AC := AC) (Γ := Γ)) rfl ⟨⟨by decide, by decide⟩, np_M_file⟩ ⟨Nat.le_of_ble_eq_true rfl, Nat.le_of_ble_eq_true rfl⟩ (Nat.le_of_ble_eq_true rfl) d_M_lift_27 rfl ?_ (fun _ _ z => z)
  rintro _ _ ⟨v4, σ5, rfl, rfl, h⟩
  exact g_iret hX rfl d_M_lift_30 ⟨_, _, rfl, rfl, h⟩
set_option maxRecDepth 100000 in
set_option maxHeartbeats 4000000 in
theorem b_M_lift_15 {p : Program} {l : Launch} {e : Env} {s : State} {m : MethodId} {args : Array Value} {below : List Frame} {meth : Method} {c : Code} {D : va_G} {AC : Nat → ClassId} {lo : Nat} {Γ : Ev} {post : Int32 → St → Prop} {thr : String → St → Prop} (hX : Cx p s m args meth c y_M_lift b_M_lift 4 (some .int) [] D AC lo)   (x1 : Int32) (x2 : Int32) (x3 : Int32) (σ : St) (h : wp_M_lift_15 Γ  post thr x1 x2 x3 σ) : G p l e rm_M_lift s m args below meth c 4 D lo (pI AC Γ post) (tX AC Γ thr) (wσ AC Γ (σ)) 0 0 15 [(1, .int (x1)), (2, .int (x2)), (3, .int (x3))] [.ref (Γ.ad 324)] := by
  unfold wp_M_lift_15 at h
  refine g_iconst (v := 1) hX d_M_lift_15 (by decide) ?_
  refine g_goto (tgt := 20) hX d_M_lift_16 (by decide) ?_
  refine g_sub [0, 1, 2] rfl ?_
  exact b_M_lift_20 hX  _ _ _ _ _ h
set_option maxRecDepth 100000 in
set_option maxHeartbeats 4000000 in
theorem c_M_lift {l : Launch} {D : va_G} {AC : Nat → ClassId} {lo : Nat} {Γ : Ev} {x1 : Int32} {x2 : Int32} {x3 : Int32} {σ : St} {post : Int32 → St → Prop} {thr : String → St → Prop} (h : wp_M_lift Γ x1 x2 x3 σ post thr) : Ct l y_M_lift hd_M_lift rm_M_lift D AC lo [.ref (Γ.ad 324), .int (x1), .int (x2), .int (x3)] (wσ AC Γ σ) (pI AC Γ post) (tX AC Γ thr) := by
  refine Ct.of (by decide) (Nat.le_of_ble_eq_true rfl) ?_
  intro p e s m args below meth c hadm hX
  unfold wp_M_lift at h
  show G p l e rm_M_lift s m args below meth c 4 D lo (pI AC Γ post) (tX AC Γ thr) (wσ AC Γ (σ)) 0 0 0 [(0, .ref (Γ.ad 324)), (1, .int (x1)), (2, .int (x2)), (3, .int (x3))] []
  refine g_aload_n hX d_M_lift_0 rfl 0 rfl ?_
  refine g_iload_n hX d_M_lift_1 rfl 2 rfl ?_
  refine g_callS (k := 0) (n := 0) hX (c_M_noParcel h) hdT_M_noParcel hdO_M_noParcel t_3 t_894 t_895 ⟨⟨by decide, by decide⟩, np_M_noParcel⟩ ⟨Nat.le_of_ble_eq_true rfl, Nat.le_of_ble_eq_true rfl⟩ (Nat.le_of_ble_eq_true rfl) d_M_lift_2 rfl ?_ (fun _ _ z => z)
  rintro _ _ ⟨v1, σ2, rfl, rfl, h⟩
  refine g_if_ne (tgt := 15) hX d_M_lift_5 (by decide) (fun q3 => ?_) (fun q3 => ?_)
  · have h := h.1 q3
    refine g_sub [1, 2, 3] rfl ?_
    exact b_M_lift_15 hX  _ _ _ _ h
  · have h := h.2 q3
    refine g_iload_n hX d_M_lift_8 rfl 3 rfl ?_
    refine g_callS (k := 0) (n := 0) hX (c_M_noPerson h) hdT_M_noPerson hdO_M_noPerson t_3 t_882 t_883 ⟨⟨by decide, by decide⟩, np_M_noPerson⟩ ⟨Nat.le_of_ble_eq_true rfl, Nat.le_of_ble_eq_true rfl⟩ (Nat.le_of_ble_eq_true rfl) d_M_lift_9 rfl ?_ (fun _ _ z => z)
    rintro _ _ ⟨v6, σ7, rfl, rfl, h⟩
    refine g_if_eq (tgt := 19) hX d_M_lift_12 (by decide) (fun q8 => ?_) (fun q8 => ?_)
    · have h := h.1 q8
      refine g_iconst (v := 0) hX d_M_lift_19 (by decide) ?_
      refine g_sub [1, 2, 3] rfl ?_
      exact b_M_lift_20 hX  _ _ _ _ _ h
    · have h := h.2 q8
      refine g_sub [1, 2, 3] rfl ?_
      exact b_M_lift_15 hX  _ _ _ _ h

def wp_M_split_20 (Γ : Ev)  (post : Int32 → St → Prop) (thr : String → St → Prop) (x1 : Int32) (x2 : Int32) (x3 : Int32) (s0 : Int32) (σ : St) : Prop := wp_M_file Γ (s0) (x1) ((7 : Int32)) (x2) (x3) ((0 : Int32)) ((0 : Int32)) (σ) (fun v4 σ5 => post v4 (σ5)) thr
def wp_M_split_15 (Γ : Ev)  (post : Int32 → St → Prop) (thr : String → St → Prop) (x1 : Int32) (x2 : Int32) (x3 : Int32) (σ : St) : Prop := wp_M_split_20 Γ  post thr (x1) (x2) (x3) ((1 : Int32)) (σ)
def wp_M_split (Γ : Ev) (x1 : Int32) (x2 : Int32) (x3 : Int32) (σ : St) (post : Int32 → St → Prop) (thr : String → St → Prop) : Prop := wp_M_noParcel Γ (x2) (σ) (fun v1 σ2 => ((¬ v1 = 0 → wp_M_split_15 Γ  post thr (x1) (x2) (x3) (σ2)) ∧ (v1 = 0 → wp_M_noAmount Γ (x3) (σ2) (fun v6 σ7 => ((v6 = 0 → wp_M_split_20 Γ  post thr (x1) (x2) (x3) ((0 : Int32)) (σ7)) ∧ (¬ v6 = 0 → wp_M_split_15 Γ  post thr (x1) (x2) (x3) (σ7)))) thr))) thr
abbrev rm_M_split : Room := { frames := 6, cells := 0, slots := 0, locals := 160 }
set_option maxRecDepth 100000 in
set_option maxHeartbeats 4000000 in
theorem b_M_split_20 {p : Program} {l : Launch} {e : Env} {s : State} {m : MethodId} {args : Array Value} {below : List Frame} {meth : Method} {c : Code} {D : va_G} {AC : Nat → ClassId} {lo : Nat} {Γ : Ev} {post : Int32 → St → Prop} {thr : String → St → Prop} (hX : Cx p s m args meth c y_M_split b_M_split 4 (some .int) [] D AC lo)   (x1 : Int32) (x2 : Int32) (x3 : Int32) (s0 : Int32) (σ : St) (h : wp_M_split_20 Γ  post thr x1 x2 x3 s0 σ) : G p l e rm_M_split s m args below meth c 4 D lo (pI AC Γ post) (tX AC Γ thr) (wσ AC Γ (σ)) 0 0 20 [(1, .int (x1)), (2, .int (x2)), (3, .int (x3))] [.int (s0), .ref (Γ.ad 324)] := by
  unfold wp_M_split_20 at h
  refine g_iload_n hX d_M_split_20 rfl 0 rfl ?_
  refine g_bipush (v := 7) hX d_M_split_21 (by decide) ?_
  refine g_iload_n hX d_M_split_23 rfl 1 rfl ?_
  refine g_iload_n hX d_M_split_24 rfl 2 rfl ?_
  refine g_iconst (v := 0) hX d_M_split_25 (by decide) ?_
  refine g_iconst (v := 0) hX d_M_split_26 (by decide) ?_
  refine g_callV (i := 324) (k := 0) (n := 0) hX (c_M_file h) hdT_M_file hdO_M_file t_3 t_885 t_887 ts_M_file (lt_c (by decide)) rfl (lay_MO (AC := AC) (Γ := Γ)) rfl ⟨⟨by decide, by decide⟩, np_M_file⟩ ⟨Nat.le_of_ble_eq_true rfl, Nat.le_of_ble_eq_true rfl⟩ (Nat.le_of_ble_eq_true rfl) d_M_split_27 rfl ?_ (fun _ _ z => z)
  rintro _ _ ⟨v4, σ5, rfl, rfl, h⟩
  exact g_iret hX rfl d_M_split_30 ⟨_, _, rfl, rfl, h⟩
set_option maxRecDepth 100000 in
set_option maxHeartbeats 4000000 in
theorem b_M_split_15 {p : Program} {l : Launch} {e : Env} {s : State} {m : MethodId} {args : Array Value} {below : List Frame} {meth : Method} {c : Code} {D : va_G} {AC : Nat → ClassId} {lo : Nat} {Γ : Ev} {post : Int32 → St → Prop} {thr : String → St → Prop} (hX : Cx p s m args meth c y_M_split b_M_split 4 (some .int) [] D AC lo)   (x1 : Int32) (x2 : Int32) (x3 : Int32) (σ : St) (h : wp_M_split_15 Γ  post thr x1 x2 x3 σ) : G p l e rm_M_split s m args below meth c 4 D lo (pI AC Γ post) (tX AC Γ thr) (wσ AC Γ (σ)) 0 0 15 [(1, .int (x1)), (2, .int (x2)), (3, .int (x3))] [.ref (Γ.ad 324)] := by
  unfold wp_M_split_15 at h
  refine g_iconst (v := 1) hX d_M_split_15 (by decide) ?_
  refine g_goto (tgt := 20) hX d_M_split_16 (by decide) ?_
  refine g_sub [0, 1, 2] rfl ?_
  exact b_M_split_20 hX  _ _ _ _ _ h
set_option maxRecDepth 100000 in
set_option maxHeartbeats 4000000 in
theorem c_M_split {l : Launch} {D : va_G} {AC : Nat → ClassId} {lo : Nat} {Γ : Ev} {x1 : Int32} {x2 : Int32} {x3 : Int32} {σ : St} {post : Int32 → St → Prop} {thr : String → St → Prop} (h : wp_M_split Γ x1 x2 x3 σ post thr) : Ct l y_M_split hd_M_split rm_M_split D AC lo [.ref (Γ.ad 324), .int (x1), .int (x2), .int (x3)] (wσ AC Γ σ) (pI AC Γ post) (tX AC Γ thr) := by
  refine Ct.of (by decide) (Nat.le_of_ble_eq_true rfl) ?_
  intro p e s m args below meth c hadm hX
  unfold wp_M_split at h
  show G p l e rm_M_split s m args below meth c 4 D lo (pI AC Γ post) (tX AC Γ thr) (wσ AC Γ (σ)) 0 0 0 [(0, .ref (Γ.ad 324)), (1, .int (x1)), (2, .int (x2)), (3, .int (x3))] []
  refine g_aload_n hX d_M_split_0 rfl 0 rfl ?_
  refine g_iload_n hX d_M_split_1 rfl 2 rfl ?_
  refine g_callS (k := 0) (n := 0) hX (c_M_noParcel h) hdT_M_noParcel hdO_M_noParcel t_3 t_894 t_895 ⟨⟨by decide, by decide⟩, np_M_noParcel⟩ ⟨Nat.le_of_ble_eq_true rfl, Nat.le_of_ble_eq_true rfl⟩ (Nat.le_of_ble_eq_true rfl) d_M_split_2 rfl ?_ (fun _ _ z => z)
  rintro _ _ ⟨v1, σ2, rfl, rfl, h⟩
  refine g_if_ne (tgt := 15) hX d_M_split_5 (by decide) (fun q3 => ?_) (fun q3 => ?_)
  · have h := h.1 q3
    refine g_sub [1, 2, 3] rfl ?_
    exact b_M_split_15 hX  _ _ _ _ h
  · have h := h.2 q3
    refine g_iload_n hX d_M_split_8 rfl 3 rfl ?_
    refine g_callS (k := 0) (n := 0) hX (c_M_noAmount h) hdT_M_noAmount hdO_M_noAmount t_3 t_878 t_879 ⟨⟨by decide, by decide⟩, np_M_noAmount⟩ ⟨Nat.le_of_ble_eq_true rfl, Nat.le_of_ble_eq_true rfl⟩ (Nat.le_of_ble_eq_true rfl) d_M_split_9 rfl ?_ (fun _ _ z => z)
    rintro _ _ ⟨v6, σ7, rfl, rfl, h⟩
    refine g_if_eq (tgt := 19) hX d_M_split_12 (by decide) (fun q8 => ?_) (fun q8 => ?_)
    · have h := h.1 q8
      refine g_iconst (v := 0) hX d_M_split_19 (by decide) ?_
      refine g_sub [1, 2, 3] rfl ?_
      exact b_M_split_20 hX  _ _ _ _ _ h
    · have h := h.2 q8
      refine g_sub [1, 2, 3] rfl ?_
      exact b_M_split_15 hX  _ _ _ _ h

def wp_M_merge_25 (Γ : Ev)  (post : Int32 → St → Prop) (thr : String → St → Prop) (x1 : Int32) (x2 : Int32) (x3 : Int32) (s0 : Int32) (σ : St) : Prop := wp_M_file Γ (s0) (x1) ((8 : Int32)) (x2) (x3) ((0 : Int32)) ((0 : Int32)) (σ) (fun v4 σ5 => post v4 (σ5)) thr
def wp_M_merge_20 (Γ : Ev)  (post : Int32 → St → Prop) (thr : String → St → Prop) (x1 : Int32) (x2 : Int32) (x3 : Int32) (σ : St) : Prop := wp_M_merge_25 Γ  post thr (x1) (x2) (x3) ((1 : Int32)) (σ)
def wp_M_merge (Γ : Ev) (x1 : Int32) (x2 : Int32) (x3 : Int32) (σ : St) (post : Int32 → St → Prop) (thr : String → St → Prop) : Prop := wp_M_noParcel Γ (x2) (σ) (fun v1 σ2 => ((¬ v1 = 0 → wp_M_merge_20 Γ  post thr (x1) (x2) (x3) (σ2)) ∧ (v1 = 0 → wp_M_noParcel Γ (x3) (σ2) (fun v6 σ7 => ((¬ v6 = 0 → wp_M_merge_20 Γ  post thr (x1) (x2) (x3) (σ7)) ∧ (v6 = 0 → ((¬ x2 = x3 → wp_M_merge_25 Γ  post thr (x1) (x2) (x3) ((0 : Int32)) (σ7)) ∧ (x2 = x3 → wp_M_merge_20 Γ  post thr (x1) (x2) (x3) (σ7)))))) thr))) thr
abbrev rm_M_merge : Room := { frames := 6, cells := 0, slots := 0, locals := 160 }
set_option maxRecDepth 100000 in
set_option maxHeartbeats 4000000 in
theorem b_M_merge_25 {p : Program} {l : Launch} {e : Env} {s : State} {m : MethodId} {args : Array Value} {below : List Frame} {meth : Method} {c : Code} {D : va_G} {AC : Nat → ClassId} {lo : Nat} {Γ : Ev} {post : Int32 → St → Prop} {thr : String → St → Prop} (hX : Cx p s m args meth c y_M_merge b_M_merge 4 (some .int) [] D AC lo)   (x1 : Int32) (x2 : Int32) (x3 : Int32) (s0 : Int32) (σ : St) (h : wp_M_merge_25 Γ  post thr x1 x2 x3 s0 σ) : G p l e rm_M_merge s m args below meth c 4 D lo (pI AC Γ post) (tX AC Γ thr) (wσ AC Γ (σ)) 0 0 25 [(1, .int (x1)), (2, .int (x2)), (3, .int (x3))] [.int (s0), .ref (Γ.ad 324)] := by
  unfold wp_M_merge_25 at h
  refine g_iload_n hX d_M_merge_25 rfl 0 rfl ?_
  refine g_bipush (v := 8) hX d_M_merge_26 (by decide) ?_
  refine g_iload_n hX d_M_merge_28 rfl 1 rfl ?_
  refine g_iload_n hX d_M_merge_29 rfl 2 rfl ?_
  refine g_iconst (v := 0) hX d_M_merge_30 (by decide) ?_
  refine g_iconst (v := 0) hX d_M_merge_31 (by decide) ?_
  refine g_callV (i := 324) (k := 0) (n := 0) hX (c_M_file h) hdT_M_file hdO_M_file t_3 t_885 t_887 ts_M_file (lt_c (by decide)) rfl (lay_MO (AC := AC) (Γ := Γ)) rfl ⟨⟨by decide, by decide⟩, np_M_file⟩ ⟨Nat.le_of_ble_eq_true rfl, Nat.le_of_ble_eq_true rfl⟩ (Nat.le_of_ble_eq_true rfl) d_M_merge_32 rfl ?_ (fun _ _ z => z)
  rintro _ _ ⟨v4, σ5, rfl, rfl, h⟩
  exact g_iret hX rfl d_M_merge_35 ⟨_, _, rfl, rfl, h⟩
set_option maxRecDepth 100000 in
set_option maxHeartbeats 4000000 in
theorem b_M_merge_20 {p : Program} {l : Launch} {e : Env} {s : State} {m : MethodId} {args : Array Value} {below : List Frame} {meth : Method} {c : Code} {D : va_G} {AC : Nat → ClassId} {lo : Nat} {Γ : Ev} {post : Int32 → St → Prop} {thr : String → St → Prop} (hX : Cx p s m args meth c y_M_merge b_M_merge 4 (some .int) [] D AC lo)   (x1 : Int32) (x2 : Int32) (x3 : Int32) (σ : St) (h : wp_M_merge_20 Γ  post thr x1 x2 x3 σ) : G p l e rm_M_merge s m args below meth c 4 D lo (pI AC Γ post) (tX AC Γ thr) (wσ AC Γ (σ)) 0 0 20 [(1, .int (x1)), (2, .int (x2)), (3, .int (x3))] [.ref (Γ.ad 324)] := by
  unfold wp_M_merge_20 at h
  refine g_iconst (v := 1) hX d_M_merge_20 (by decide) ?_
  refine g_goto (tgt := 25) hX d_M_merge_21 (by decide) ?_
  refine g_sub [0, 1, 2] rfl ?_
  exact b_M_merge_25 hX  _ _ _ _ _ h
set_option maxRecDepth 100000 in
set_option maxHeartbeats 4000000 in
theorem c_M_merge {l : Launch} {D : va_G} {AC : Nat → ClassId} {lo : Nat} {Γ : Ev} {x1 : Int32} {x2 : Int32} {x3 : Int32} {σ : St} {post : Int32 → St → Prop} {thr : String → St → Prop} (h : wp_M_merge Γ x1 x2 x3 σ post thr) : Ct l y_M_merge hd_M_merge rm_M_merge D AC lo [.ref (Γ.ad 324), .int (x1), .int (x2), .int (x3)] (wσ AC Γ σ) (pI AC Γ post) (tX AC Γ thr) := by
  refine Ct.of (by decide) (Nat.le_of_ble_eq_true rfl) ?_
  intro p e s m args below meth c hadm hX
  unfold wp_M_merge at h
  show G p l e rm_M_merge s m args below meth c 4 D lo (pI AC Γ post) (tX AC Γ thr) (wσ AC Γ (σ)) 0 0 0 [(0, .ref (Γ.ad 324)), (1, .int (x1)), (2, .int (x2)), (3, .int (x3))] []
  refine g_aload_n hX d_M_merge_0 rfl 0 rfl ?_
  refine g_iload_n hX d_M_merge_1 rfl 2 rfl ?_
  refine g_callS (k := 0) (n := 0) hX (c_M_noParcel h) hdT_M_noParcel hdO_M_noParcel t_3 t_894 t_895 ⟨⟨by decide, by decide⟩, np_M_noParcel⟩ ⟨Nat.le_of_ble_eq_true rfl, Nat.le_of_ble_eq_true rfl⟩ (Nat.le_of_ble_eq_true rfl) d_M_merge_2 rfl ?_ (fun _ _ z => z)
  rintro _ _ ⟨v1, σ2, rfl, rfl, h⟩
  refine g_if_ne (tgt := 20) hX d_M_merge_5 (by decide) (fun q3 => ?_) (fun q3 => ?_)
  · have h := h.1 q3
    refine g_sub [1, 2, 3] rfl ?_
    exact b_M_merge_20 hX  _ _ _ _ h
  · have h := h.2 q3
    refine g_iload_n hX d_M_merge_8 rfl 3 rfl ?_
    refine g_callS (k := 0) (n := 0) hX (c_M_noParcel h) hdT_M_noParcel hdO_M_noParcel t_3 t_894 t_895 ⟨⟨by decide, by decide⟩, np_M_noParcel⟩ ⟨Nat.le_of_ble_eq_true rfl, Nat.le_of_ble_eq_true rfl⟩ (Nat.le_of_ble_eq_true rfl) d_M_merge_9 rfl ?_ (fun _ _ z => z)
    rintro _ _ ⟨v6, σ7, rfl, rfl, h⟩
    refine g_if_ne (tgt := 20) hX d_M_merge_12 (by decide) (fun q8 => ?_) (fun q8 => ?_)
    · have h := h.1 q8
      refine g_sub [1, 2, 3] rfl ?_
      exact b_M_merge_20 hX  _ _ _ _ h
    · have h := h.2 q8
      refine g_iload_n hX d_M_merge_15 rfl 2 rfl ?_
      refine g_iload_n hX d_M_merge_16 rfl 3 rfl ?_
      refine g_icmp_ne (tgt := 24) hX d_M_merge_17 (by decide) (fun q9 => ?_) (fun q9 => ?_)
      · have h := h.1 q9
        refine g_iconst (v := 0) hX d_M_merge_24 (by decide) ?_
        refine g_sub [1, 2, 3] rfl ?_
        exact b_M_merge_25 hX  _ _ _ _ _ h
      · have h := h.2 q9
        refine g_sub [1, 2, 3] rfl ?_
        exact b_M_merge_20 hX  _ _ _ _ h

def wp_M_day_15 (Γ : Ev)  (post : Int32 → St → Prop) (thr : String → St → Prop) (s0 : Int32) (σ : St) : Prop := (((St.I (St.sI (σ) 20 0 s0) 20 0) ≤ 0 → wp_M_look Γ ((St.I (St.sI (St.sI (σ) 20 0 s0) 20 1 ((St.I (St.sI (σ) 20 0 s0) 20 1) + (1 : Int32))) 20 1)) ((St.I (St.sI (St.sI (σ) 20 0 s0) 20 1 ((St.I (St.sI (σ) 20 0 s0) 20 1) + (1 : Int32))) 20 1)) (St.sI (St.sI (σ) 20 0 s0) 20 1 ((St.I (St.sI (σ) 20 0 s0) 20 1) + (1 : Int32))) (fun σ4 => post (St.I (σ4) 20 1) (σ4)) thr) ∧ (¬ (St.I (St.sI (σ) 20 0 s0) 20 0) ≤ 0 → post (0 : Int32) (St.sI (σ) 20 0 s0)))
def wp_M_day (Γ : Ev)  (σ : St) (post : Int32 → St → Prop) (thr : String → St → Prop) : Prop := ((¬ (St.I (σ) 20 1) = (60 : Int32) → wp_M_day_15 Γ  post thr ((0 : Int32)) (σ)) ∧ ((St.I (σ) 20 1) = (60 : Int32) → wp_M_day_15 Γ  post thr ((1 : Int32)) (σ)))
abbrev rm_M_day : Room := { frames := 5, cells := 0, slots := 0, locals := 133 }
set_option maxRecDepth 100000 in
set_option maxHeartbeats 4000000 in
theorem b_M_day_15 {p : Program} {l : Launch} {e : Env} {s : State} {m : MethodId} {args : Array Value} {below : List Frame} {meth : Method} {c : Code} {D : va_G} {AC : Nat → ClassId} {lo : Nat} {Γ : Ev} {post : Int32 → St → Prop} {thr : String → St → Prop} (hX : Cx p s m args meth c y_M_day b_M_day 1 (some .int) [] D AC lo)   (s0 : Int32) (σ : St) (h : wp_M_day_15 Γ  post thr s0 σ) : G p l e rm_M_day s m args below meth c 1 D lo (pI AC Γ post) (tX AC Γ thr) (wσ AC Γ (σ)) 0 0 15 [(0, .ref (Γ.ad 324))] [.int (s0), .ref (Γ.ad 324)] := by
  unfold wp_M_day_15 at h
  refine g_putf (i := 324) (kf := 0) (ty := .int) hX (lt_c (by decide)) rfl (lay_MO (AC := AC) (Γ := Γ)) rfl in_M ty_M nm_M (by decide) t_805 (Or.inl rfl) rfl (by decide +kernel) rfl rfl (by show _ < List.length _; simp) d_M_day_15 (wσ_mthrown _) ?_
  refine g_aload_n hX d_M_day_18 rfl 0 rfl ?_
  refine g_getf (i := 324) (kf := 0) hX (lt_c (by decide)) rfl (lay_MO (AC := AC) (Γ := Γ)) rfl in_M (by decide) t_805 (Or.inl rfl) rfl d_M_day_19 ?_
  refine g_if_le (tgt := 27) hX d_M_day_22 (by decide) (fun q2 => ?_) (fun q2 => ?_)
  · have h := h.1 q2
    refine g_aload_n hX d_M_day_27 rfl 0 rfl ?_
    refine g_dup hX d_M_day_28 rfl ?_
    refine g_getf (i := 324) (kf := 1) hX (lt_c (by decide)) rfl (lay_MO (AC := AC) (Γ := Γ)) rfl in_M (by decide) t_806 (Or.inl rfl) rfl d_M_day_29 ?_
    refine g_iconst (v := 1) hX d_M_day_32 (by decide) ?_
    refine g_iadd hX d_M_day_33 ?_
    refine g_putf (i := 324) (kf := 1) (ty := .int) hX (lt_c (by decide)) rfl (lay_MO (AC := AC) (Γ := Γ)) rfl in_M ty_M nm_M (by decide) t_806 (Or.inl rfl) rfl (by decide +kernel) rfl rfl (by show _ < List.length _; simp) d_M_day_34 (wσ_mtoday _) ?_
    refine g_aload_n hX d_M_day_37 rfl 0 rfl ?_
    refine g_aload_n hX d_M_day_38 rfl 0 rfl ?_
    refine g_getf (i := 324) (kf := 1) hX (lt_c (by decide)) rfl (lay_MO (AC := AC) (Γ := Γ)) rfl in_M (by decide) t_806 (Or.inl rfl) rfl d_M_day_39 ?_
    refine g_aload_n hX d_M_day_42 rfl 0 rfl ?_
    refine g_getf (i := 324) (kf := 1) hX (lt_c (by decide)) rfl (lay_MO (AC := AC) (Γ := Γ)) rfl in_M (by decide) t_806 (Or.inl rfl) rfl d_M_day_43 ?_
    refine g_callV (i := 324) (k := 0) (n := 0) hX (c_M_look h) hdT_M_look hdO_M_look t_3 t_746 t_748 ts_M_look (lt_c (by decide)) rfl (lay_MO (AC := AC) (Γ := Γ)) rfl ⟨⟨by decide, by decide⟩, np_M_look⟩ ⟨Nat.le_of_ble_eq_true rfl, Nat.le_of_ble_eq_true rfl⟩ (Nat.le_of_ble_eq_true rfl) d_M_day_46 rfl ?_ (fun _ _ z => z)
    rintro _ _ ⟨σ4, rfl, rfl, h⟩
    refine g_aload_n hX d_M_day_49 rfl 0 rfl ?_
    refine g_getf (i := 324) (kf := 1) hX (lt_c (by decide)) rfl (lay_MO (AC := AC) (Γ := Γ)) rfl in_M (by decide) t_806 (Or.inl rfl) rfl d_M_day_50 ?_
    exact g_iret hX rfl d_M_day_53 ⟨_, _, rfl, rfl, h⟩
  · have h := h.2 q2
    refine g_iconst (v := 0) hX d_M_day_25 (by decide) ?_
    exact g_iret hX rfl d_M_day_26 ⟨_, _, rfl, rfl, h⟩
set_option maxRecDepth 100000 in
set_option maxHeartbeats 4000000 in
theorem c_M_day {l : Launch} {D : va_G} {AC : Nat → ClassId} {lo : Nat} {Γ : Ev}  {σ : St} {post : Int32 → St → Prop} {thr : String → St → Prop} (h : wp_M_day Γ  σ post thr) : Ct l y_M_day hd_M_day rm_M_day D AC lo [.ref (Γ.ad 324)] (wσ AC Γ σ) (pI AC Γ post) (tX AC Γ thr) := by
  refine Ct.of (by decide) (Nat.le_of_ble_eq_true rfl) ?_
  intro p e s m args below meth c hadm hX
  unfold wp_M_day at h
  show G p l e rm_M_day s m args below meth c 1 D lo (pI AC Γ post) (tX AC Γ thr) (wσ AC Γ (σ)) 0 0 0 [(0, .ref (Γ.ad 324))] []
  refine g_aload_n hX d_M_day_0 rfl 0 rfl ?_
  refine g_aload_n hX d_M_day_1 rfl 0 rfl ?_
  refine g_getf (i := 324) (kf := 1) hX (lt_c (by decide)) rfl (lay_MO (AC := AC) (Γ := Γ)) rfl in_M (by decide) t_806 (Or.inl rfl) rfl d_M_day_2 ?_
  refine g_bipush (v := 60) hX d_M_day_5 (by decide) ?_
  refine g_icmp_ne (tgt := 14) hX d_M_day_7 (by decide) (fun q1 => ?_) (fun q1 => ?_)
  · have h := h.1 q1
    refine g_iconst (v := 0) hX d_M_day_14 (by decide) ?_
    refine g_sub [0] rfl ?_
    exact b_M_day_15 hX  _ _ h
  · have h := h.2 q1
    refine g_iconst (v := 1) hX d_M_day_10 (by decide) ?_
    refine g_goto (tgt := 15) hX d_M_day_11 (by decide) ?_
    refine g_sub [0] rfl ?_
    exact b_M_day_15 hX  _ _ h

def wp_M_view_75 (Γ : Ev) (k51 : Int32 → Int32 → St → Prop) (post : Int32 → St → Prop) (thr : String → St → Prop) (x4 : Int32) (s0 : Int32) (σ : St) : Prop := k51 (s0) ((x4 + 1)) (σ)
def wp_M_view_51 (Γ : Ev)  (post : Int32 → St → Prop) (thr : String → St → Prop) : Nat → Int32 → Int32 → St → Prop
  | 0 => fun _ _ _ => False
  | fuel + 1 => fun x3 x4 σ => (((80 : Int32) ≤ x4 → post x3 (σ)) ∧ (¬ (80 : Int32) ≤ x4 → (vp_in x4 80 ∧ (((St.I (σ) 29 (x4).toNatClampNeg) = 0 → wp_M_view_75 Γ (fun x3 x4 σ => wp_M_view_51 Γ  post thr fuel x3 x4 σ) post thr (x4) (x3) (σ)) ∧ (¬ (St.I (σ) 29 (x4).toNatClampNeg) = 0 → wp_M_view_75 Γ (fun x3 x4 σ => wp_M_view_51 Γ  post thr fuel x3 x4 σ) post thr (x4) ((x3 + (1 : Int32))) (σ))))))
def wp_M_view_28 (Γ : Ev)  (post : Int32 → St → Prop) (thr : String → St → Prop) (x1 : Int32) (x2 : Int32) (s0 : Int32) (σ : St) : Prop := (((St.I (St.sI (σ) 20 0 s0) 20 0) ≤ 0 → wp_M_look Γ (x1) (x2) (St.sI (σ) 20 0 s0) (fun σ4 => (∃ f8, wp_M_view_51 Γ  post thr f8 ((0 : Int32)) ((0 : Int32)) (σ4))) thr) ∧ (¬ (St.I (St.sI (σ) 20 0 s0) 20 0) ≤ 0 → post (0 : Int32) (St.sI (σ) 20 0 s0)))
def wp_M_view_23 (Γ : Ev)  (post : Int32 → St → Prop) (thr : String → St → Prop) (x1 : Int32) (x2 : Int32) (σ : St) : Prop := wp_M_view_28 Γ  post thr (x1) (x2) ((1 : Int32)) (σ)
def wp_M_view (Γ : Ev) (x1 : Int32) (x2 : Int32) (σ : St) (post : Int32 → St → Prop) (thr : String → St → Prop) : Prop := ((x1 < 0 → wp_M_view_23 Γ  post thr (x1) (x2) (σ)) ∧ (¬ x1 < 0 → (((St.I (σ) 20 1) < x1 → wp_M_view_23 Γ  post thr (x1) (x2) (σ)) ∧ (¬ (St.I (σ) 20 1) < x1 → ((x2 < 0 → wp_M_view_23 Γ  post thr (x1) (x2) (σ)) ∧ (¬ x2 < 0 → ((x2 ≤ (60 : Int32) → wp_M_view_28 Γ  post thr (x1) (x2) ((0 : Int32)) (σ)) ∧ (¬ x2 ≤ (60 : Int32) → wp_M_view_23 Γ  post thr (x1) (x2) (σ)))))))))
abbrev rm_M_view : Room := { frames := 5, cells := 0, slots := 0, locals := 133 }
set_option maxRecDepth 100000 in
set_option maxHeartbeats 4000000 in
theorem b_M_view_75 {p : Program} {l : Launch} {e : Env} {s : State} {m : MethodId} {args : Array Value} {below : List Frame} {meth : Method} {c : Code} {D : va_G} {AC : Nat → ClassId} {lo : Nat} {Γ : Ev} {post : Int32 → St → Prop} {thr : String → St → Prop} (hX : Cx p s m args meth c y_M_view b_M_view 5 (some .int) [] D AC lo) {k51 : Int32 → Int32 → St → Prop} (hk51 : ∀ (x3 : Int32) (x4 : Int32) (σ : St), k51 x3 x4 σ → G p l e rm_M_view s m args below meth c 5 D lo (pI AC Γ post) (tX AC Γ thr) (wσ AC Γ (σ)) 0 0 51 [(0, .ref (Γ.ad 324)), (3, .int (x3)), (4, .int (x4))] []) (x4 : Int32) (s0 : Int32) (σ : St) (h : wp_M_view_75 Γ k51 post thr x4 s0 σ) : G p l e rm_M_view s m args below meth c 5 D lo (pI AC Γ post) (tX AC Γ thr) (wσ AC Γ (σ)) 0 0 75 [(0, .ref (Γ.ad 324)), (4, .int (x4))] [.int (s0)] := by
  unfold wp_M_view_75 at h
  refine g_istore_n hX d_M_view_75 rfl (by decide) rfl ?_
  refine g_iinc (v := x4 + 1) hX d_M_view_76 2 rfl (congrArg (x4 + ·) (by decide)) (by decide) rfl ?_
  refine g_goto (tgt := 51) hX d_M_view_79 (by decide) ?_
  refine g_sub [2, 1, 0] rfl ?_
  exact hk51 (s0) ((x4 + 1)) (σ) h
set_option maxRecDepth 100000 in
set_option maxHeartbeats 4000000 in
theorem b_M_view_51 {p : Program} {l : Launch} {e : Env} {s : State} {m : MethodId} {args : Array Value} {below : List Frame} {meth : Method} {c : Code} {D : va_G} {AC : Nat → ClassId} {lo : Nat} {Γ : Ev} {post : Int32 → St → Prop} {thr : String → St → Prop} (hX : Cx p s m args meth c y_M_view b_M_view 5 (some .int) [] D AC lo)   : ∀ (fuel : Nat) (x3 : Int32) (x4 : Int32) (σ : St), wp_M_view_51 Γ  post thr fuel x3 x4 σ → G p l e rm_M_view s m args below meth c 5 D lo (pI AC Γ post) (tX AC Γ thr) (wσ AC Γ (σ)) 0 0 51 [(0, .ref (Γ.ad 324)), (3, .int (x3)), (4, .int (x4))] [] := by
  intro fuel
  induction fuel with
  | zero => intro x3 x4 σ h; exact False.elim h
  | succ fuel ih =>
    intro x3 x4 σ h
    simp only [wp_M_view_51] at h
    refine g_iload hX d_M_view_51 2 rfl ?_
    refine g_bipush (v := 80) hX d_M_view_53 (by decide) ?_
    refine g_icmp_ge (tgt := 82) hX d_M_view_55 (by decide) (fun q5 => ?_) (fun q5 => ?_)
    · have h := h.1 q5
      refine g_iload_n hX d_M_view_82 rfl 1 rfl ?_
      exact g_iret hX rfl d_M_view_83 ⟨_, _, rfl, rfl, h⟩
    · have h := h.2 q5
      refine g_aload_n hX d_M_view_58 rfl 0 rfl ?_
      refine g_getf (i := 324) (kf := 11) hX (lt_c (by decide)) rfl (lay_MO (AC := AC) (Γ := Γ)) rfl in_M (by decide) t_816 (Or.inl rfl) rfl d_M_view_59 ?_
      refine g_iload hX d_M_view_62 2 rfl ?_
      obtain ⟨q6, h⟩ := h
      refine g_zald (i := 333) hX (lt_c (by decide)) rfl (lay_m8 (AC := AC) (Γ := Γ)) q6 d_M_view_64 ?_
      refine g_if_eq (tgt := 74) hX d_M_view_65 (by decide) (fun q7 => ?_) (fun q7 => ?_)
      · have h := h.1 q7
        refine g_iload_n hX d_M_view_74 rfl 1 rfl ?_
        refine g_sub [0, 2] rfl ?_
        exact b_M_view_75 hX (fun _ _ _ z => ih _ _ _ z) _ _ _ h
      · have h := h.2 q7
        refine g_iload_n hX d_M_view_68 rfl 1 rfl ?_
        refine g_iconst (v := 1) hX d_M_view_69 (by decide) ?_
        refine g_iadd hX d_M_view_70 ?_
        refine g_goto (tgt := 75) hX d_M_view_71 (by decide) ?_
        refine g_sub [0, 2] rfl ?_
        exact b_M_view_75 hX (fun _ _ _ z => ih _ _ _ z) _ _ _ h
set_option maxRecDepth 100000 in
set_option maxHeartbeats 4000000 in
theorem b_M_view_28 {p : Program} {l : Launch} {e : Env} {s : State} {m : MethodId} {args : Array Value} {below : List Frame} {meth : Method} {c : Code} {D : va_G} {AC : Nat → ClassId} {lo : Nat} {Γ : Ev} {post : Int32 → St → Prop} {thr : String → St → Prop} (hX : Cx p s m args meth c y_M_view b_M_view 5 (some .int) [] D AC lo)   (x1 : Int32) (x2 : Int32) (s0 : Int32) (σ : St) (h : wp_M_view_28 Γ  post thr x1 x2 s0 σ) : G p l e rm_M_view s m args below meth c 5 D lo (pI AC Γ post) (tX AC Γ thr) (wσ AC Γ (σ)) 0 0 28 [(0, .ref (Γ.ad 324)), (1, .int (x1)), (2, .int (x2))] [.int (s0), .ref (Γ.ad 324)] := by
  unfold wp_M_view_28 at h
  refine g_putf (i := 324) (kf := 0) (ty := .int) hX (lt_c (by decide)) rfl (lay_MO (AC := AC) (Γ := Γ)) rfl in_M ty_M nm_M (by decide) t_805 (Or.inl rfl) rfl (by decide +kernel) rfl rfl (by show _ < List.length _; simp) d_M_view_28 (wσ_mthrown _) ?_
  refine g_aload_n hX d_M_view_31 rfl 0 rfl ?_
  refine g_getf (i := 324) (kf := 0) hX (lt_c (by decide)) rfl (lay_MO (AC := AC) (Γ := Γ)) rfl in_M (by decide) t_805 (Or.inl rfl) rfl d_M_view_32 ?_
  refine g_if_le (tgt := 40) hX d_M_view_35 (by decide) (fun q2 => ?_) (fun q2 => ?_)
  · have h := h.1 q2
    refine g_aload_n hX d_M_view_40 rfl 0 rfl ?_
    refine g_iload_n hX d_M_view_41 rfl 1 rfl ?_
    refine g_iload_n hX d_M_view_42 rfl 2 rfl ?_
    refine g_callV (i := 324) (k := 0) (n := 0) hX (c_M_look h) hdT_M_look hdO_M_look t_3 t_746 t_748 ts_M_look (lt_c (by decide)) rfl (lay_MO (AC := AC) (Γ := Γ)) rfl ⟨⟨by decide, by decide⟩, np_M_look⟩ ⟨Nat.le_of_ble_eq_true rfl, Nat.le_of_ble_eq_true rfl⟩ (Nat.le_of_ble_eq_true rfl) d_M_view_43 rfl ?_ (fun _ _ z => z)
    rintro _ _ ⟨σ4, rfl, rfl, h⟩
    refine g_iconst (v := 0) hX d_M_view_46 (by decide) ?_
    refine g_istore_n hX d_M_view_47 rfl (by decide) rfl ?_
    refine g_iconst (v := 0) hX d_M_view_48 (by decide) ?_
    refine g_istore hX d_M_view_49 (by decide) rfl ?_
    refine g_sub [2, 1, 0] rfl ?_
    obtain ⟨f8, h⟩ := h
    exact b_M_view_51 hX  f8 _ _ _ h
  · have h := h.2 q2
    refine g_iconst (v := 0) hX d_M_view_38 (by decide) ?_
    exact g_iret hX rfl d_M_view_39 ⟨_, _, rfl, rfl, h⟩
set_option maxRecDepth 100000 in
set_option maxHeartbeats 4000000 in
theorem b_M_view_23 {p : Program} {l : Launch} {e : Env} {s : State} {m : MethodId} {args : Array Value} {below : List Frame} {meth : Method} {c : Code} {D : va_G} {AC : Nat → ClassId} {lo : Nat} {Γ : Ev} {post : Int32 → St → Prop} {thr : String → St → Prop} (hX : Cx p s m args meth c y_M_view b_M_view 5 (some .int) [] D AC lo)   (x1 : Int32) (x2 : Int32) (σ : St) (h : wp_M_view_23 Γ  post thr x1 x2 σ) : G p l e rm_M_view s m args below meth c 5 D lo (pI AC Γ post) (tX AC Γ thr) (wσ AC Γ (σ)) 0 0 23 [(0, .ref (Γ.ad 324)), (1, .int (x1)), (2, .int (x2))] [.ref (Γ.ad 324)] := by
  unfold wp_M_view_23 at h
  refine g_iconst (v := 1) hX d_M_view_23 (by decide) ?_
  refine g_goto (tgt := 28) hX d_M_view_24 (by decide) ?_
  refine g_sub [0, 1, 2] rfl ?_
  exact b_M_view_28 hX  _ _ _ _ h
set_option maxRecDepth 100000 in
set_option maxHeartbeats 4000000 in
theorem c_M_view {l : Launch} {D : va_G} {AC : Nat → ClassId} {lo : Nat} {Γ : Ev} {x1 : Int32} {x2 : Int32} {σ : St} {post : Int32 → St → Prop} {thr : String → St → Prop} (h : wp_M_view Γ x1 x2 σ post thr) : Ct l y_M_view hd_M_view rm_M_view D AC lo [.ref (Γ.ad 324), .int (x1), .int (x2)] (wσ AC Γ σ) (pI AC Γ post) (tX AC Γ thr) := by
  refine Ct.of (by decide) (Nat.le_of_ble_eq_true rfl) ?_
  intro p e s m args below meth c hadm hX
  unfold wp_M_view at h
  show G p l e rm_M_view s m args below meth c 5 D lo (pI AC Γ post) (tX AC Γ thr) (wσ AC Γ (σ)) 0 0 0 [(0, .ref (Γ.ad 324)), (1, .int (x1)), (2, .int (x2))] []
  refine g_aload_n hX d_M_view_0 rfl 0 rfl ?_
  refine g_iload_n hX d_M_view_1 rfl 1 rfl ?_
  refine g_if_lt (tgt := 23) hX d_M_view_2 (by decide) (fun q1 => ?_) (fun q1 => ?_)
  · have h := h.1 q1
    refine g_sub [0, 1, 2] rfl ?_
    exact b_M_view_23 hX  _ _ _ h
  · have h := h.2 q1
    refine g_iload_n hX d_M_view_5 rfl 1 rfl ?_
    refine g_aload_n hX d_M_view_6 rfl 0 rfl ?_
    refine g_getf (i := 324) (kf := 1) hX (lt_c (by decide)) rfl (lay_MO (AC := AC) (Γ := Γ)) rfl in_M (by decide) t_806 (Or.inl rfl) rfl d_M_view_7 ?_
    refine g_icmp_gt (tgt := 23) hX d_M_view_10 (by decide) (fun q9 => ?_) (fun q9 => ?_)
    · have h := h.1 q9
      refine g_sub [0, 1, 2] rfl ?_
      exact b_M_view_23 hX  _ _ _ h
    · have h := h.2 q9
      refine g_iload_n hX d_M_view_13 rfl 2 rfl ?_
      refine g_if_lt (tgt := 23) hX d_M_view_14 (by decide) (fun q10 => ?_) (fun q10 => ?_)
      · have h := h.1 q10
        refine g_sub [0, 1, 2] rfl ?_
        exact b_M_view_23 hX  _ _ _ h
      · have h := h.2 q10
        refine g_iload_n hX d_M_view_17 rfl 2 rfl ?_
        refine g_bipush (v := 60) hX d_M_view_18 (by decide) ?_
        refine g_icmp_le (tgt := 27) hX d_M_view_20 (by decide) (fun q11 => ?_) (fun q11 => ?_)
        · have h := h.1 q11
          refine g_iconst (v := 0) hX d_M_view_27 (by decide) ?_
          refine g_sub [0, 1, 2] rfl ?_
          exact b_M_view_28 hX  _ _ _ _ h
        · have h := h.2 q11
          refine g_sub [0, 1, 2] rfl ?_
          exact b_M_view_23 hX  _ _ _ h

def wp_M_parcel_33 (Γ : Ev) (k9 : Int32 → Int32 → St → Prop) (post : Int32 → St → Prop) (thr : String → St → Prop) (x2 : Int32) (x3 : Int32) (σ : St) : Prop := k9 (x2) ((x3 + 1)) (σ)
def wp_M_parcel_9 (Γ : Ev)  (post : Int32 → St → Prop) (thr : String → St → Prop) : Nat → Int32 → Int32 → St → Prop
  | 0 => fun _ _ _ => False
  | fuel + 1 => fun x2 x3 σ => (((80 : Int32) ≤ x3 → post (-1 : Int32) (σ)) ∧ (¬ (80 : Int32) ≤ x3 → (vp_in x3 80 ∧ (((St.I (σ) 29 (x3).toNatClampNeg) = 0 → wp_M_parcel_33 Γ (fun x2 x3 σ => wp_M_parcel_9 Γ  post thr fuel x2 x3 σ) post thr (x2) (x3) (σ)) ∧ (¬ (St.I (σ) 29 (x3).toNatClampNeg) = 0 → ((¬ x2 = 0 → wp_M_parcel_33 Γ (fun x2 x3 σ => wp_M_parcel_9 Γ  post thr fuel x2 x3 σ) post thr ((x2 + (-1))) (x3) (σ)) ∧ (x2 = 0 → post x3 (σ))))))))
def wp_M_parcel (Γ : Ev) (x1 : Int32) (σ : St) (post : Int32 → St → Prop) (thr : String → St → Prop) : Prop := (∃ f5, wp_M_parcel_9 Γ  post thr f5 (x1) ((0 : Int32)) (St.sI (σ) 20 0 (0 : Int32)))
abbrev rm_M_parcel : Room := { frames := 0, cells := 0, slots := 0, locals := 0 }
set_option maxRecDepth 100000 in
set_option maxHeartbeats 4000000 in
theorem b_M_parcel_33 {p : Program} {l : Launch} {e : Env} {s : State} {m : MethodId} {args : Array Value} {below : List Frame} {meth : Method} {c : Code} {D : va_G} {AC : Nat → ClassId} {lo : Nat} {Γ : Ev} {post : Int32 → St → Prop} {thr : String → St → Prop} (hX : Cx p s m args meth c y_M_parcel b_M_parcel 4 (some .int) [] D AC lo) {k9 : Int32 → Int32 → St → Prop} (hk9 : ∀ (x2 : Int32) (x3 : Int32) (σ : St), k9 x2 x3 σ → G p l e rm_M_parcel s m args below meth c 4 D lo (pI AC Γ post) (tX AC Γ thr) (wσ AC Γ (σ)) 0 0 9 [(0, .ref (Γ.ad 324)), (2, .int (x2)), (3, .int (x3))] []) (x2 : Int32) (x3 : Int32) (σ : St) (h : wp_M_parcel_33 Γ k9 post thr x2 x3 σ) : G p l e rm_M_parcel s m args below meth c 4 D lo (pI AC Γ post) (tX AC Γ thr) (wσ AC Γ (σ)) 0 0 33 [(0, .ref (Γ.ad 324)), (2, .int (x2)), (3, .int (x3))] [] := by
  unfold wp_M_parcel_33 at h
  refine g_iinc (v := x3 + 1) hX d_M_parcel_33 2 rfl (congrArg (x3 + ·) (by decide)) (by decide) rfl ?_
  refine g_goto (tgt := 9) hX d_M_parcel_36 (by decide) ?_
  refine g_sub [1, 2, 0] rfl ?_
  exact hk9 (x2) ((x3 + 1)) (σ) h
set_option maxRecDepth 100000 in
set_option maxHeartbeats 4000000 in
theorem b_M_parcel_9 {p : Program} {l : Launch} {e : Env} {s : State} {m : MethodId} {args : Array Value} {below : List Frame} {meth : Method} {c : Code} {D : va_G} {AC : Nat → ClassId} {lo : Nat} {Γ : Ev} {post : Int32 → St → Prop} {thr : String → St → Prop} (hX : Cx p s m args meth c y_M_parcel b_M_parcel 4 (some .int) [] D AC lo)   : ∀ (fuel : Nat) (x2 : Int32) (x3 : Int32) (σ : St), wp_M_parcel_9 Γ  post thr fuel x2 x3 σ → G p l e rm_M_parcel s m args below meth c 4 D lo (pI AC Γ post) (tX AC Γ thr) (wσ AC Γ (σ)) 0 0 9 [(0, .ref (Γ.ad 324)), (2, .int (x2)), (3, .int (x3))] [] := by
  intro fuel
  induction fuel with
  | zero => intro x2 x3 σ h; exact False.elim h
  | succ fuel ih =>
    intro x2 x3 σ h
    simp only [wp_M_parcel_9] at h
    refine g_iload_n hX d_M_parcel_9 rfl 2 rfl ?_
    refine g_bipush (v := 80) hX d_M_parcel_10 (by decide) ?_
    refine g_icmp_ge (tgt := 39) hX d_M_parcel_12 (by decide) (fun q1 => ?_) (fun q1 => ?_)
    · have h := h.1 q1
      refine g_iconst (v := -1) hX d_M_parcel_39 (by decide) ?_
      exact g_iret hX rfl d_M_parcel_40 ⟨_, _, rfl, rfl, h⟩
    · have h := h.2 q1
      refine g_aload_n hX d_M_parcel_15 rfl 0 rfl ?_
      refine g_getf (i := 324) (kf := 11) hX (lt_c (by decide)) rfl (lay_MO (AC := AC) (Γ := Γ)) rfl in_M (by decide) t_816 (Or.inl rfl) rfl d_M_parcel_16 ?_
      refine g_iload_n hX d_M_parcel_19 rfl 2 rfl ?_
      obtain ⟨q2, h⟩ := h
      refine g_zald (i := 333) hX (lt_c (by decide)) rfl (lay_m8 (AC := AC) (Γ := Γ)) q2 d_M_parcel_20 ?_
      refine g_if_eq (tgt := 33) hX d_M_parcel_21 (by decide) (fun q3 => ?_) (fun q3 => ?_)
      · have h := h.1 q3
        refine g_sub [0, 1, 2] rfl ?_
        exact b_M_parcel_33 hX (fun _ _ _ z => ih _ _ _ z) _ _ _ h
      · have h := h.2 q3
        refine g_iload_n hX d_M_parcel_24 rfl 1 rfl ?_
        refine g_if_ne (tgt := 30) hX d_M_parcel_25 (by decide) (fun q4 => ?_) (fun q4 => ?_)
        · have h := h.1 q4
          refine g_iinc (v := x2 + (-1)) hX d_M_parcel_30 1 rfl (congrArg (x2 + ·) (by decide)) (by decide) rfl ?_
          refine g_sub [1, 0, 2] rfl ?_
          exact b_M_parcel_33 hX (fun _ _ _ z => ih _ _ _ z) _ _ _ h
        · have h := h.2 q4
          refine g_iload_n hX d_M_parcel_28 rfl 2 rfl ?_
          exact g_iret hX rfl d_M_parcel_29 ⟨_, _, rfl, rfl, h⟩
set_option maxRecDepth 100000 in
set_option maxHeartbeats 4000000 in
theorem c_M_parcel {l : Launch} {D : va_G} {AC : Nat → ClassId} {lo : Nat} {Γ : Ev} {x1 : Int32} {σ : St} {post : Int32 → St → Prop} {thr : String → St → Prop} (h : wp_M_parcel Γ x1 σ post thr) : Ct l y_M_parcel hd_M_parcel rm_M_parcel D AC lo [.ref (Γ.ad 324), .int (x1)] (wσ AC Γ σ) (pI AC Γ post) (tX AC Γ thr) := by
  refine Ct.of (by decide) (Nat.le_of_ble_eq_true rfl) ?_
  intro p e s m args below meth c hadm hX
  unfold wp_M_parcel at h
  show G p l e rm_M_parcel s m args below meth c 4 D lo (pI AC Γ post) (tX AC Γ thr) (wσ AC Γ (σ)) 0 0 0 [(0, .ref (Γ.ad 324)), (1, .int (x1))] []
  refine g_aload_n hX d_M_parcel_0 rfl 0 rfl ?_
  refine g_iconst (v := 0) hX d_M_parcel_1 (by decide) ?_
  refine g_putf (i := 324) (kf := 0) (ty := .int) hX (lt_c (by decide)) rfl (lay_MO (AC := AC) (Γ := Γ)) rfl in_M ty_M nm_M (by decide) t_805 (Or.inl rfl) rfl (by decide +kernel) rfl rfl (by show _ < List.length _; simp) d_M_parcel_2 (wσ_mthrown _) ?_
  refine g_iload_n hX d_M_parcel_5 rfl 1 rfl ?_
  refine g_istore_n hX d_M_parcel_6 rfl (by decide) rfl ?_
  refine g_iconst (v := 0) hX d_M_parcel_7 (by decide) ?_
  refine g_istore_n hX d_M_parcel_8 rfl (by decide) rfl ?_
  refine g_sub [2, 1, 0] rfl ?_
  obtain ⟨f5, h⟩ := h
  exact b_M_parcel_9 hX  f5 _ _ _ h

def wp_M_area_32 (Γ : Ev)  (post : Int64 → St → Prop) (thr : String → St → Prop)  (σ : St) : Prop := post (0 : Int64) (σ)
def wp_M_area_13 (Γ : Ev)  (post : Int64 → St → Prop) (thr : String → St → Prop) (x1 : Int32) (s0 : Int32) (σ : St) : Prop := ((0 < (St.I (St.sI (σ) 20 0 s0) 20 0) → wp_M_area_32 Γ  post thr  (St.sI (σ) 20 0 s0)) ∧ (¬ 0 < (St.I (St.sI (σ) 20 0 s0) 20 0) → (vp_in x1 80 ∧ ((¬ (St.I (St.sI (σ) 20 0 s0) 29 (x1).toNatClampNeg) = 0 → (vp_in x1 80 ∧ post (St.L (St.sI (σ) 20 0 s0) 3 (x1).toNatClampNeg) (St.sI (σ) 20 0 s0))) ∧ ((St.I (St.sI (σ) 20 0 s0) 29 (x1).toNatClampNeg) = 0 → wp_M_area_32 Γ  post thr  (St.sI (σ) 20 0 s0))))))
def wp_M_area (Γ : Ev) (x1 : Int32) (σ : St) (post : Int64 → St → Prop) (thr : String → St → Prop) : Prop := wp_M_noParcel Γ (x1) (σ) (fun v1 σ2 => ((v1 = 0 → wp_M_area_13 Γ  post thr (x1) ((0 : Int32)) (σ2)) ∧ (¬ v1 = 0 → wp_M_area_13 Γ  post thr (x1) ((1 : Int32)) (σ2)))) thr
abbrev rm_M_area : Room := { frames := 1, cells := 0, slots := 0, locals := 20 }
set_option maxRecDepth 100000 in
set_option maxHeartbeats 4000000 in
theorem b_M_area_32 {p : Program} {l : Launch} {e : Env} {s : State} {m : MethodId} {args : Array Value} {below : List Frame} {meth : Method} {c : Code} {D : va_G} {AC : Nat → ClassId} {lo : Nat} {Γ : Ev} {post : Int64 → St → Prop} {thr : String → St → Prop} (hX : Cx p s m args meth c y_M_area b_M_area 2 (some .long) [] D AC lo)    (σ : St) (h : wp_M_area_32 Γ  post thr  σ) : G p l e rm_M_area s m args below meth c 2 D lo (pL AC Γ post) (tX AC Γ thr) (wσ AC Γ (σ)) 0 0 32 [] [] := by
  unfold wp_M_area_32 at h
  refine g_lconst (v := 0) hX d_M_area_32 (by decide) ?_
  refine g_goto (tgt := 42) hX d_M_area_33 (by decide) ?_
  exact g_lret hX rfl d_M_area_42 ⟨_, _, rfl, rfl, h⟩
set_option maxRecDepth 100000 in
set_option maxHeartbeats 4000000 in
theorem b_M_area_13 {p : Program} {l : Launch} {e : Env} {s : State} {m : MethodId} {args : Array Value} {below : List Frame} {meth : Method} {c : Code} {D : va_G} {AC : Nat → ClassId} {lo : Nat} {Γ : Ev} {post : Int64 → St → Prop} {thr : String → St → Prop} (hX : Cx p s m args meth c y_M_area b_M_area 2 (some .long) [] D AC lo)   (x1 : Int32) (s0 : Int32) (σ : St) (h : wp_M_area_13 Γ  post thr x1 s0 σ) : G p l e rm_M_area s m args below meth c 2 D lo (pL AC Γ post) (tX AC Γ thr) (wσ AC Γ (σ)) 0 0 13 [(0, .ref (Γ.ad 324)), (1, .int (x1))] [.int (s0), .ref (Γ.ad 324)] := by
  unfold wp_M_area_13 at h
  refine g_putf (i := 324) (kf := 0) (ty := .int) hX (lt_c (by decide)) rfl (lay_MO (AC := AC) (Γ := Γ)) rfl in_M ty_M nm_M (by decide) t_805 (Or.inl rfl) rfl (by decide +kernel) rfl rfl (by show _ < List.length _; simp) d_M_area_13 (wσ_mthrown _) ?_
  refine g_aload_n hX d_M_area_16 rfl 0 rfl ?_
  refine g_getf (i := 324) (kf := 0) hX (lt_c (by decide)) rfl (lay_MO (AC := AC) (Γ := Γ)) rfl in_M (by decide) t_805 (Or.inl rfl) rfl d_M_area_17 ?_
  refine g_if_gt (tgt := 32) hX d_M_area_20 (by decide) (fun q4 => ?_) (fun q4 => ?_)
  · have h := h.1 q4
    refine g_sub [] rfl ?_
    exact b_M_area_32 hX   _ h
  · have h := h.2 q4
    refine g_aload_n hX d_M_area_23 rfl 0 rfl ?_
    refine g_getf (i := 324) (kf := 11) hX (lt_c (by decide)) rfl (lay_MO (AC := AC) (Γ := Γ)) rfl in_M (by decide) t_816 (Or.inl rfl) rfl d_M_area_24 ?_
    refine g_iload_n hX d_M_area_27 rfl 1 rfl ?_
    obtain ⟨q5, h⟩ := h
    refine g_zald (i := 333) hX (lt_c (by decide)) rfl (lay_m8 (AC := AC) (Γ := Γ)) q5 d_M_area_28 ?_
    refine g_if_ne (tgt := 36) hX d_M_area_29 (by decide) (fun q6 => ?_) (fun q6 => ?_)
    · have h := h.1 q6
      refine g_aload_n hX d_M_area_36 rfl 0 rfl ?_
      refine g_getf (i := 324) (kf := 12) hX (lt_c (by decide)) rfl (lay_MO (AC := AC) (Γ := Γ)) rfl in_M (by decide) t_817 (Or.inl rfl) rfl d_M_area_37 ?_
      refine g_iload_n hX d_M_area_40 rfl 1 rfl ?_
      obtain ⟨q7, h⟩ := h
      refine g_lald (i := 334) hX (lt_c (by decide)) rfl (lay_m9 (AC := AC) (Γ := Γ)) q7 d_M_area_41 ?_
      exact g_lret hX rfl d_M_area_42 ⟨_, _, rfl, rfl, h⟩
    · have h := h.2 q6
      refine g_sub [] rfl ?_
      exact b_M_area_32 hX   _ h
set_option maxRecDepth 100000 in
set_option maxHeartbeats 4000000 in
theorem c_M_area {l : Launch} {D : va_G} {AC : Nat → ClassId} {lo : Nat} {Γ : Ev} {x1 : Int32} {σ : St} {post : Int64 → St → Prop} {thr : String → St → Prop} (h : wp_M_area Γ x1 σ post thr) : Ct l y_M_area hd_M_area rm_M_area D AC lo [.ref (Γ.ad 324), .int (x1)] (wσ AC Γ σ) (pL AC Γ post) (tX AC Γ thr) := by
  refine Ct.of (by decide) (Nat.le_of_ble_eq_true rfl) ?_
  intro p e s m args below meth c hadm hX
  unfold wp_M_area at h
  show G p l e rm_M_area s m args below meth c 2 D lo (pL AC Γ post) (tX AC Γ thr) (wσ AC Γ (σ)) 0 0 0 [(0, .ref (Γ.ad 324)), (1, .int (x1))] []
  refine g_aload_n hX d_M_area_0 rfl 0 rfl ?_
  refine g_iload_n hX d_M_area_1 rfl 1 rfl ?_
  refine g_callS (k := 0) (n := 0) hX (c_M_noParcel h) hdT_M_noParcel hdO_M_noParcel t_3 t_894 t_895 ⟨⟨by decide, by decide⟩, np_M_noParcel⟩ ⟨Nat.le_of_ble_eq_true rfl, Nat.le_of_ble_eq_true rfl⟩ (Nat.le_of_ble_eq_true rfl) d_M_area_2 rfl ?_ (fun _ _ z => z)
  rintro _ _ ⟨v1, σ2, rfl, rfl, h⟩
  refine g_if_eq (tgt := 12) hX d_M_area_5 (by decide) (fun q3 => ?_) (fun q3 => ?_)
  · have h := h.1 q3
    refine g_iconst (v := 0) hX d_M_area_12 (by decide) ?_
    refine g_sub [0, 1] rfl ?_
    exact b_M_area_13 hX  _ _ _ h
  · have h := h.2 q3
    refine g_iconst (v := 1) hX d_M_area_8 (by decide) ?_
    refine g_goto (tgt := 13) hX d_M_area_9 (by decide) ?_
    refine g_sub [0, 1] rfl ?_
    exact b_M_area_13 hX  _ _ _ h

def wp_M_share_20 (Γ : Ev)  (post : Int64 → St → Prop) (thr : String → St → Prop) (x1 : Int32) (x2 : Int32) (s0 : Int32) (σ : St) : Prop := ((0 < (St.I (St.sI (σ) 20 0 s0) 20 0) → post (0 : Int64) (St.sI (σ) 20 0 s0)) ∧ (¬ 0 < (St.I (St.sI (σ) 20 0 s0) 20 0) → (vp_in x1 80 ∧ (((St.I (St.sI (σ) 20 0 s0) 29 (x1).toNatClampNeg) = 0 → post (0 : Int64) (St.sI (σ) 20 0 s0)) ∧ (¬ (St.I (St.sI (σ) 20 0 s0) 29 (x1).toNatClampNeg) = 0 → (vp_in (((8 : Int32) * x1) + x2) 640 ∧ ((¬ (lg_cmp (St.L (St.sI (σ) 20 0 s0) 4 ((((8 : Int32) * x1) + x2)).toNatClampNeg) (0 : Int64)) = 0 → (vp_in (((8 : Int32) * x1) + x2) 640 ∧ (vp_in (((8 : Int32) * x1) + x2) 640 ∧ post (((St.L (St.sI (σ) 20 0 s0) 4 ((((8 : Int32) * x1) + x2)).toNatClampNeg) <<< (Int32.toInt64 (32 : Int32) &&& 63)) ||| (St.L (St.sI (σ) 20 0 s0) 5 ((((8 : Int32) * x1) + x2)).toNatClampNeg)) (St.sI (σ) 20 0 s0)))) ∧ ((lg_cmp (St.L (St.sI (σ) 20 0 s0) 4 ((((8 : Int32) * x1) + x2)).toNatClampNeg) (0 : Int64)) = 0 → post (0 : Int64) (St.sI (σ) 20 0 s0)))))))))
def wp_M_share_15 (Γ : Ev)  (post : Int64 → St → Prop) (thr : String → St → Prop) (x1 : Int32) (x2 : Int32) (σ : St) : Prop := wp_M_share_20 Γ  post thr (x1) (x2) ((1 : Int32)) (σ)
def wp_M_share (Γ : Ev) (x1 : Int32) (x2 : Int32) (σ : St) (post : Int64 → St → Prop) (thr : String → St → Prop) : Prop := wp_M_noParcel Γ (x1) (σ) (fun v1 σ2 => ((¬ v1 = 0 → wp_M_share_15 Γ  post thr (x1) (x2) (σ2)) ∧ (v1 = 0 → wp_M_noPerson Γ (x2) (σ2) (fun v11 σ12 => ((v11 = 0 → wp_M_share_20 Γ  post thr (x1) (x2) ((0 : Int32)) (σ12)) ∧ (¬ v11 = 0 → wp_M_share_15 Γ  post thr (x1) (x2) (σ12)))) thr))) thr
abbrev rm_M_share : Room := { frames := 1, cells := 0, slots := 0, locals := 20 }
set_option maxRecDepth 100000 in
set_option maxHeartbeats 4000000 in
theorem b_M_share_20 {p : Program} {l : Launch} {e : Env} {s : State} {m : MethodId} {args : Array Value} {below : List Frame} {meth : Method} {c : Code} {D : va_G} {AC : Nat → ClassId} {lo : Nat} {Γ : Ev} {post : Int64 → St → Prop} {thr : String → St → Prop} (hX : Cx p s m args meth c y_M_share b_M_share 3 (some .long) [] D AC lo)   (x1 : Int32) (x2 : Int32) (s0 : Int32) (σ : St) (h : wp_M_share_20 Γ  post thr x1 x2 s0 σ) : G p l e rm_M_share s m args below meth c 3 D lo (pL AC Γ post) (tX AC Γ thr) (wσ AC Γ (σ)) 0 0 20 [(0, .ref (Γ.ad 324)), (1, .int (x1)), (2, .int (x2))] [.int (s0), .ref (Γ.ad 324)] := by
  unfold wp_M_share_20 at h
  refine g_putf (i := 324) (kf := 0) (ty := .int) hX (lt_c (by decide)) rfl (lay_MO (AC := AC) (Γ := Γ)) rfl in_M ty_M nm_M (by decide) t_805 (Or.inl rfl) rfl (by decide +kernel) rfl rfl (by show _ < List.length _; simp) d_M_share_20 (wσ_mthrown _) ?_
  refine g_aload_n hX d_M_share_23 rfl 0 rfl ?_
  refine g_getf (i := 324) (kf := 0) hX (lt_c (by decide)) rfl (lay_MO (AC := AC) (Γ := Γ)) rfl in_M (by decide) t_805 (Or.inl rfl) rfl d_M_share_24 ?_
  refine g_if_gt (tgt := 55) hX d_M_share_27 (by decide) (fun q4 => ?_) (fun q4 => ?_)
  · have h := h.1 q4
    refine g_lconst (v := 0) hX d_M_share_55 (by decide) ?_
    exact g_lret hX rfl d_M_share_56 ⟨_, _, rfl, rfl, h⟩
  · have h := h.2 q4
    refine g_aload_n hX d_M_share_30 rfl 0 rfl ?_
    refine g_getf (i := 324) (kf := 11) hX (lt_c (by decide)) rfl (lay_MO (AC := AC) (Γ := Γ)) rfl in_M (by decide) t_816 (Or.inl rfl) rfl d_M_share_31 ?_
    refine g_iload_n hX d_M_share_34 rfl 1 rfl ?_
    obtain ⟨q5, h⟩ := h
    refine g_zald (i := 333) hX (lt_c (by decide)) rfl (lay_m8 (AC := AC) (Γ := Γ)) q5 d_M_share_35 ?_
    refine g_if_eq (tgt := 55) hX d_M_share_36 (by decide) (fun q6 => ?_) (fun q6 => ?_)
    · have h := h.1 q6
      refine g_lconst (v := 0) hX d_M_share_55 (by decide) ?_
      exact g_lret hX rfl d_M_share_56 ⟨_, _, rfl, rfl, h⟩
    · have h := h.2 q6
      refine g_aload_n hX d_M_share_39 rfl 0 rfl ?_
      refine g_getf (i := 324) (kf := 13) hX (lt_c (by decide)) rfl (lay_MO (AC := AC) (Γ := Γ)) rfl in_M (by decide) t_818 (Or.inl rfl) rfl d_M_share_40 ?_
      refine g_bipush (v := 8) hX d_M_share_43 (by decide) ?_
      refine g_iload_n hX d_M_share_45 rfl 1 rfl ?_
      refine g_imul hX d_M_share_46 ?_
      refine g_iload_n hX d_M_share_47 rfl 2 rfl ?_
      refine g_iadd hX d_M_share_48 ?_
      obtain ⟨q7, h⟩ := h
      refine g_lald (i := 335) hX (lt_c (by decide)) rfl (lay_m10 (AC := AC) (Γ := Γ)) q7 d_M_share_49 ?_
      refine g_lconst (v := 0) hX d_M_share_50 (by decide) ?_
      refine g_lcmp hX d_M_share_51 ?_
      refine g_if_ne (tgt := 57) hX d_M_share_52 (by decide) (fun q8 => ?_) (fun q8 => ?_)
      · have h := h.1 q8
        refine g_aload_n hX d_M_share_57 rfl 0 rfl ?_
        refine g_getf (i := 324) (kf := 13) hX (lt_c (by decide)) rfl (lay_MO (AC := AC) (Γ := Γ)) rfl in_M (by decide) t_818 (Or.inl rfl) rfl d_M_share_58 ?_
        refine g_bipush (v := 8) hX d_M_share_61 (by decide) ?_
        refine g_iload_n hX d_M_share_63 rfl 1 rfl ?_
        refine g_imul hX d_M_share_64 ?_
        refine g_iload_n hX d_M_share_65 rfl 2 rfl ?_
        refine g_iadd hX d_M_share_66 ?_
        obtain ⟨q9, h⟩ := h
        refine g_lald (i := 335) hX (lt_c (by decide)) rfl (lay_m10 (AC := AC) (Γ := Γ)) q9 d_M_share_67 ?_
        refine g_bipush (v := 32) hX d_M_share_68 (by decide) ?_
        refine g_lshl hX d_M_share_70 ?_
        refine g_aload_n hX d_M_share_71 rfl 0 rfl ?_
        refine g_getf (i := 324) (kf := 14) hX (lt_c (by decide)) rfl (lay_MO (AC := AC) (Γ := Γ)) rfl in_M (by decide) t_819 (Or.inl rfl) rfl d_M_share_72 ?_
        refine g_bipush (v := 8) hX d_M_share_75 (by decide) ?_
        refine g_iload_n hX d_M_share_77 rfl 1 rfl ?_
        refine g_imul hX d_M_share_78 ?_
        refine g_iload_n hX d_M_share_79 rfl 2 rfl ?_
        refine g_iadd hX d_M_share_80 ?_
        obtain ⟨q10, h⟩ := h
        refine g_lald (i := 336) hX (lt_c (by decide)) rfl (lay_m11 (AC := AC) (Γ := Γ)) q10 d_M_share_81 ?_
        refine g_lor hX d_M_share_82 ?_
        exact g_lret hX rfl d_M_share_83 ⟨_, _, rfl, rfl, h⟩
      · have h := h.2 q8
        refine g_lconst (v := 0) hX d_M_share_55 (by decide) ?_
        exact g_lret hX rfl d_M_share_56 ⟨_, _, rfl, rfl, h⟩
set_option maxRecDepth 100000 in
set_option maxHeartbeats 4000000 in
theorem b_M_share_15 {p : Program} {l : Launch} {e : Env} {s : State} {m : MethodId} {args : Array Value} {below : List Frame} {meth : Method} {c : Code} {D : va_G} {AC : Nat → ClassId} {lo : Nat} {Γ : Ev} {post : Int64 → St → Prop} {thr : String → St → Prop} (hX : Cx p s m args meth c y_M_share b_M_share 3 (some .long) [] D AC lo)   (x1 : Int32) (x2 : Int32) (σ : St) (h : wp_M_share_15 Γ  post thr x1 x2 σ) : G p l e rm_M_share s m args below meth c 3 D lo (pL AC Γ post) (tX AC Γ thr) (wσ AC Γ (σ)) 0 0 15 [(0, .ref (Γ.ad 324)), (1, .int (x1)), (2, .int (x2))] [.ref (Γ.ad 324)] := by
  unfold wp_M_share_15 at h
  refine g_iconst (v := 1) hX d_M_share_15 (by decide) ?_
  refine g_goto (tgt := 20) hX d_M_share_16 (by decide) ?_
  refine g_sub [0, 1, 2] rfl ?_
  exact b_M_share_20 hX  _ _ _ _ h
set_option maxRecDepth 100000 in
set_option maxHeartbeats 4000000 in
theorem c_M_share {l : Launch} {D : va_G} {AC : Nat → ClassId} {lo : Nat} {Γ : Ev} {x1 : Int32} {x2 : Int32} {σ : St} {post : Int64 → St → Prop} {thr : String → St → Prop} (h : wp_M_share Γ x1 x2 σ post thr) : Ct l y_M_share hd_M_share rm_M_share D AC lo [.ref (Γ.ad 324), .int (x1), .int (x2)] (wσ AC Γ σ) (pL AC Γ post) (tX AC Γ thr) := by
  refine Ct.of (by decide) (Nat.le_of_ble_eq_true rfl) ?_
  intro p e s m args below meth c hadm hX
  unfold wp_M_share at h
  show G p l e rm_M_share s m args below meth c 3 D lo (pL AC Γ post) (tX AC Γ thr) (wσ AC Γ (σ)) 0 0 0 [(0, .ref (Γ.ad 324)), (1, .int (x1)), (2, .int (x2))] []
  refine g_aload_n hX d_M_share_0 rfl 0 rfl ?_
  refine g_iload_n hX d_M_share_1 rfl 1 rfl ?_
  refine g_callS (k := 0) (n := 0) hX (c_M_noParcel h) hdT_M_noParcel hdO_M_noParcel t_3 t_894 t_895 ⟨⟨by decide, by decide⟩, np_M_noParcel⟩ ⟨Nat.le_of_ble_eq_true rfl, Nat.le_of_ble_eq_true rfl⟩ (Nat.le_of_ble_eq_true rfl) d_M_share_2 rfl ?_ (fun _ _ z => z)
  rintro _ _ ⟨v1, σ2, rfl, rfl, h⟩
  refine g_if_ne (tgt := 15) hX d_M_share_5 (by decide) (fun q3 => ?_) (fun q3 => ?_)
  · have h := h.1 q3
    refine g_sub [0, 1, 2] rfl ?_
    exact b_M_share_15 hX  _ _ _ h
  · have h := h.2 q3
    refine g_iload_n hX d_M_share_8 rfl 2 rfl ?_
    refine g_callS (k := 0) (n := 0) hX (c_M_noPerson h) hdT_M_noPerson hdO_M_noPerson t_3 t_882 t_883 ⟨⟨by decide, by decide⟩, np_M_noPerson⟩ ⟨Nat.le_of_ble_eq_true rfl, Nat.le_of_ble_eq_true rfl⟩ (Nat.le_of_ble_eq_true rfl) d_M_share_9 rfl ?_ (fun _ _ z => z)
    rintro _ _ ⟨v11, σ12, rfl, rfl, h⟩
    refine g_if_eq (tgt := 19) hX d_M_share_12 (by decide) (fun q13 => ?_) (fun q13 => ?_)
    · have h := h.1 q13
      refine g_iconst (v := 0) hX d_M_share_19 (by decide) ?_
      refine g_sub [0, 1, 2] rfl ?_
      exact b_M_share_20 hX  _ _ _ _ h
    · have h := h.2 q13
      refine g_sub [0, 1, 2] rfl ?_
      exact b_M_share_15 hX  _ _ _ h

def wp_M_mortgage_13 (Γ : Ev)  (post : Int32 → St → Prop) (thr : String → St → Prop) (x1 : Int32) (x2 : Int32) (x3 : Int32) (s0 : Int32) (σ : St) : Prop := (((St.I (St.sI (σ) 20 0 s0) 20 0) ≤ 0 → (vp_in x1 80 ∧ (((St.I (St.sI (σ) 20 0 s0) 29 (x1).toNatClampNeg) = 0 → post (-1 : Int32) (St.sI (σ) 20 0 s0)) ∧ (¬ (St.I (St.sI (σ) 20 0 s0) 29 (x1).toNatClampNeg) = 0 → ((x2 < (1 : Int32) → post (-1 : Int32) (St.sI (σ) 20 0 s0)) ∧ (¬ x2 < (1 : Int32) → (vp_in x1 80 ∧ ((x2 ≤ (St.I (St.sI (σ) 20 0 s0) 30 (x1).toNatClampNeg) → ((¬ x3 = 0 → ((¬ x3 = (1 : Int32) → post (-1 : Int32) (St.sI (σ) 20 0 s0)) ∧ (x3 = (1 : Int32) → (vp_in ((((4 : Int32) * x1) + x2) - (1 : Int32)) 320 ∧ post (St.I (St.sI (σ) 20 0 s0) 32 (((((4 : Int32) * x1) + x2) - (1 : Int32))).toNatClampNeg) (St.sI (σ) 20 0 s0))))) ∧ (x3 = 0 → (vp_in ((((4 : Int32) * x1) + x2) - (1 : Int32)) 320 ∧ post (St.I (St.sI (σ) 20 0 s0) 31 (((((4 : Int32) * x1) + x2) - (1 : Int32))).toNatClampNeg) (St.sI (σ) 20 0 s0))))) ∧ (¬ x2 ≤ (St.I (St.sI (σ) 20 0 s0) 30 (x1).toNatClampNeg) → post (-1 : Int32) (St.sI (σ) 20 0 s0)))))))))) ∧ (¬ (St.I (St.sI (σ) 20 0 s0) 20 0) ≤ 0 → post (0 : Int32) (St.sI (σ) 20 0 s0)))
def wp_M_mortgage (Γ : Ev) (x1 : Int32) (x2 : Int32) (x3 : Int32) (σ : St) (post : Int32 → St → Prop) (thr : String → St → Prop) : Prop := wp_M_noParcel Γ (x1) (σ) (fun v1 σ2 => ((v1 = 0 → wp_M_mortgage_13 Γ  post thr (x1) (x2) (x3) ((0 : Int32)) (σ2)) ∧ (¬ v1 = 0 → wp_M_mortgage_13 Γ  post thr (x1) (x2) (x3) ((1 : Int32)) (σ2)))) thr
abbrev rm_M_mortgage : Room := { frames := 1, cells := 0, slots := 0, locals := 20 }
set_option maxRecDepth 100000 in
set_option maxHeartbeats 4000000 in
theorem b_M_mortgage_13 {p : Program} {l : Launch} {e : Env} {s : State} {m : MethodId} {args : Array Value} {below : List Frame} {meth : Method} {c : Code} {D : va_G} {AC : Nat → ClassId} {lo : Nat} {Γ : Ev} {post : Int32 → St → Prop} {thr : String → St → Prop} (hX : Cx p s m args meth c y_M_mortgage b_M_mortgage 5 (some .int) [] D AC lo)   (x1 : Int32) (x2 : Int32) (x3 : Int32) (s0 : Int32) (σ : St) (h : wp_M_mortgage_13 Γ  post thr x1 x2 x3 s0 σ) : G p l e rm_M_mortgage s m args below meth c 5 D lo (pI AC Γ post) (tX AC Γ thr) (wσ AC Γ (σ)) 0 0 13 [(0, .ref (Γ.ad 324)), (1, .int (x1)), (2, .int (x2)), (3, .int (x3))] [.int (s0), .ref (Γ.ad 324)] := by
  unfold wp_M_mortgage_13 at h
  refine g_putf (i := 324) (kf := 0) (ty := .int) hX (lt_c (by decide)) rfl (lay_MO (AC := AC) (Γ := Γ)) rfl in_M ty_M nm_M (by decide) t_805 (Or.inl rfl) rfl (by decide +kernel) rfl rfl (by show _ < List.length _; simp) d_M_mortgage_13 (wσ_mthrown _) ?_
  refine g_aload_n hX d_M_mortgage_16 rfl 0 rfl ?_
  refine g_getf (i := 324) (kf := 0) hX (lt_c (by decide)) rfl (lay_MO (AC := AC) (Γ := Γ)) rfl in_M (by decide) t_805 (Or.inl rfl) rfl d_M_mortgage_17 ?_
  refine g_if_le (tgt := 25) hX d_M_mortgage_20 (by decide) (fun q4 => ?_) (fun q4 => ?_)
  · have h := h.1 q4
    refine g_aload_n hX d_M_mortgage_25 rfl 0 rfl ?_
    refine g_getf (i := 324) (kf := 11) hX (lt_c (by decide)) rfl (lay_MO (AC := AC) (Γ := Γ)) rfl in_M (by decide) t_816 (Or.inl rfl) rfl d_M_mortgage_26 ?_
    refine g_iload_n hX d_M_mortgage_29 rfl 1 rfl ?_
    obtain ⟨q5, h⟩ := h
    refine g_zald (i := 333) hX (lt_c (by decide)) rfl (lay_m8 (AC := AC) (Γ := Γ)) q5 d_M_mortgage_30 ?_
    refine g_if_eq (tgt := 49) hX d_M_mortgage_31 (by decide) (fun q6 => ?_) (fun q6 => ?_)
    · have h := h.1 q6
      refine g_iconst (v := -1) hX d_M_mortgage_49 (by decide) ?_
      exact g_iret hX rfl d_M_mortgage_50 ⟨_, _, rfl, rfl, h⟩
    · have h := h.2 q6
      refine g_iload_n hX d_M_mortgage_34 rfl 2 rfl ?_
      refine g_iconst (v := 1) hX d_M_mortgage_35 (by decide) ?_
      refine g_icmp_lt (tgt := 49) hX d_M_mortgage_36 (by decide) (fun q7 => ?_) (fun q7 => ?_)
      · have h := h.1 q7
        refine g_iconst (v := -1) hX d_M_mortgage_49 (by decide) ?_
        exact g_iret hX rfl d_M_mortgage_50 ⟨_, _, rfl, rfl, h⟩
      · have h := h.2 q7
        refine g_iload_n hX d_M_mortgage_39 rfl 2 rfl ?_
        refine g_aload_n hX d_M_mortgage_40 rfl 0 rfl ?_
        refine g_getf (i := 324) (kf := 15) hX (lt_c (by decide)) rfl (lay_MO (AC := AC) (Γ := Γ)) rfl in_M (by decide) t_820 (Or.inl rfl) rfl d_M_mortgage_41 ?_
        refine g_iload_n hX d_M_mortgage_44 rfl 1 rfl ?_
        obtain ⟨q8, h⟩ := h
        refine g_iald (i := 337) hX (lt_c (by decide)) rfl (lay_m12 (AC := AC) (Γ := Γ)) q8 d_M_mortgage_45 ?_
        refine g_icmp_le (tgt := 51) hX d_M_mortgage_46 (by decide) (fun q9 => ?_) (fun q9 => ?_)
        · have h := h.1 q9
          refine g_iconst (v := 4) hX d_M_mortgage_51 (by decide) ?_
          refine g_iload_n hX d_M_mortgage_52 rfl 1 rfl ?_
          refine g_imul hX d_M_mortgage_53 ?_
          refine g_iload_n hX d_M_mortgage_54 rfl 2 rfl ?_
          refine g_iadd hX d_M_mortgage_55 ?_
          refine g_iconst (v := 1) hX d_M_mortgage_56 (by decide) ?_
          refine g_isub hX d_M_mortgage_57 ?_
          refine g_istore hX d_M_mortgage_58 (by decide) rfl ?_
          refine g_iload_n hX d_M_mortgage_60 rfl 4 rfl ?_
          refine g_if_ne (tgt := 74) hX d_M_mortgage_61 (by decide) (fun q10 => ?_) (fun q10 => ?_)
          · have h := h.1 q10
            refine g_iload_n hX d_M_mortgage_74 rfl 4 rfl ?_
            refine g_iconst (v := 1) hX d_M_mortgage_75 (by decide) ?_
            refine g_icmp_ne (tgt := 89) hX d_M_mortgage_76 (by decide) (fun q11 => ?_) (fun q11 => ?_)
            · have h := h.1 q11
              refine g_iconst (v := -1) hX d_M_mortgage_89 (by decide) ?_
              exact g_iret hX rfl d_M_mortgage_90 ⟨_, _, rfl, rfl, h⟩
            · have h := h.2 q11
              refine g_aload_n hX d_M_mortgage_79 rfl 1 rfl ?_
              refine g_getf (i := 324) (kf := 17) hX (lt_c (by decide)) rfl (lay_MO (AC := AC) (Γ := Γ)) rfl in_M (by decide) t_822 (Or.inl rfl) rfl d_M_mortgage_80 ?_
              refine g_iload hX d_M_mortgage_83 0 rfl ?_
              obtain ⟨q12, h⟩ := h
              refine g_iald (i := 339) hX (lt_c (by decide)) rfl (lay_m14 (AC := AC) (Γ := Γ)) q12 d_M_mortgage_85 ?_
              refine g_goto (tgt := 90) hX d_M_mortgage_86 (by decide) ?_
              exact g_iret hX rfl d_M_mortgage_90 ⟨_, _, rfl, rfl, h⟩
          · have h := h.2 q10
            refine g_aload_n hX d_M_mortgage_64 rfl 1 rfl ?_
            refine g_getf (i := 324) (kf := 16) hX (lt_c (by decide)) rfl (lay_MO (AC := AC) (Γ := Γ)) rfl in_M (by decide) t_821 (Or.inl rfl) rfl d_M_mortgage_65 ?_
            refine g_iload hX d_M_mortgage_68 0 rfl ?_
            obtain ⟨q13, h⟩ := h
            refine g_iald (i := 338) hX (lt_c (by decide)) rfl (lay_m13 (AC := AC) (Γ := Γ)) q13 d_M_mortgage_70 ?_
            refine g_goto (tgt := 90) hX d_M_mortgage_71 (by decide) ?_
            exact g_iret hX rfl d_M_mortgage_90 ⟨_, _, rfl, rfl, h⟩
        · have h := h.2 q9
          refine g_iconst (v := -1) hX d_M_mortgage_49 (by decide) ?_
          exact g_iret hX rfl d_M_mortgage_50 ⟨_, _, rfl, rfl, h⟩
  · have h := h.2 q4
    refine g_iconst (v := 0) hX d_M_mortgage_23 (by decide) ?_
    exact g_iret hX rfl d_M_mortgage_24 ⟨_, _, rfl, rfl, h⟩
set_option maxRecDepth 100000 in
set_option maxHeartbeats 4000000 in
theorem c_M_mortgage {l : Launch} {D : va_G} {AC : Nat → ClassId} {lo : Nat} {Γ : Ev} {x1 : Int32} {x2 : Int32} {x3 : Int32} {σ : St} {post : Int32 → St → Prop} {thr : String → St → Prop} (h : wp_M_mortgage Γ x1 x2 x3 σ post thr) : Ct l y_M_mortgage hd_M_mortgage rm_M_mortgage D AC lo [.ref (Γ.ad 324), .int (x1), .int (x2), .int (x3)] (wσ AC Γ σ) (pI AC Γ post) (tX AC Γ thr) := by
  refine Ct.of (by decide) (Nat.le_of_ble_eq_true rfl) ?_
  intro p e s m args below meth c hadm hX
  unfold wp_M_mortgage at h
  show G p l e rm_M_mortgage s m args below meth c 5 D lo (pI AC Γ post) (tX AC Γ thr) (wσ AC Γ (σ)) 0 0 0 [(0, .ref (Γ.ad 324)), (1, .int (x1)), (2, .int (x2)), (3, .int (x3))] []
  refine g_aload_n hX d_M_mortgage_0 rfl 0 rfl ?_
  refine g_iload_n hX d_M_mortgage_1 rfl 1 rfl ?_
  refine g_callS (k := 0) (n := 0) hX (c_M_noParcel h) hdT_M_noParcel hdO_M_noParcel t_3 t_894 t_895 ⟨⟨by decide, by decide⟩, np_M_noParcel⟩ ⟨Nat.le_of_ble_eq_true rfl, Nat.le_of_ble_eq_true rfl⟩ (Nat.le_of_ble_eq_true rfl) d_M_mortgage_2 rfl ?_ (fun _ _ z => z)
  rintro _ _ ⟨v1, σ2, rfl, rfl, h⟩
  refine g_if_eq (tgt := 12) hX d_M_mortgage_5 (by decide) (fun q3 => ?_) (fun q3 => ?_)
  · have h := h.1 q3
    refine g_iconst (v := 0) hX d_M_mortgage_12 (by decide) ?_
    refine g_sub [0, 1, 2, 3] rfl ?_
    exact b_M_mortgage_13 hX  _ _ _ _ _ h
  · have h := h.2 q3
    refine g_iconst (v := 1) hX d_M_mortgage_8 (by decide) ?_
    refine g_goto (tgt := 13) hX d_M_mortgage_9 (by decide) ?_
    refine g_sub [0, 1, 2, 3] rfl ?_
    exact b_M_mortgage_13 hX  _ _ _ _ _ h

def wp_M_cautions_32 (Γ : Ev)  (post : Int32 → St → Prop) (thr : String → St → Prop)  (σ : St) : Prop := post (0 : Int32) (σ)
def wp_M_cautions_13 (Γ : Ev)  (post : Int32 → St → Prop) (thr : String → St → Prop) (x1 : Int32) (s0 : Int32) (σ : St) : Prop := ((0 < (St.I (St.sI (σ) 20 0 s0) 20 0) → wp_M_cautions_32 Γ  post thr  (St.sI (σ) 20 0 s0)) ∧ (¬ 0 < (St.I (St.sI (σ) 20 0 s0) 20 0) → (vp_in x1 80 ∧ ((¬ (St.I (St.sI (σ) 20 0 s0) 29 (x1).toNatClampNeg) = 0 → (vp_in x1 80 ∧ post (St.I (St.sI (σ) 20 0 s0) 33 (x1).toNatClampNeg) (St.sI (σ) 20 0 s0))) ∧ ((St.I (St.sI (σ) 20 0 s0) 29 (x1).toNatClampNeg) = 0 → wp_M_cautions_32 Γ  post thr  (St.sI (σ) 20 0 s0))))))
def wp_M_cautions (Γ : Ev) (x1 : Int32) (σ : St) (post : Int32 → St → Prop) (thr : String → St → Prop) : Prop := wp_M_noParcel Γ (x1) (σ) (fun v1 σ2 => ((v1 = 0 → wp_M_cautions_13 Γ  post thr (x1) ((0 : Int32)) (σ2)) ∧ (¬ v1 = 0 → wp_M_cautions_13 Γ  post thr (x1) ((1 : Int32)) (σ2)))) thr
abbrev rm_M_cautions : Room := { frames := 1, cells := 0, slots := 0, locals := 20 }
set_option maxRecDepth 100000 in
set_option maxHeartbeats 4000000 in
theorem b_M_cautions_32 {p : Program} {l : Launch} {e : Env} {s : State} {m : MethodId} {args : Array Value} {below : List Frame} {meth : Method} {c : Code} {D : va_G} {AC : Nat → ClassId} {lo : Nat} {Γ : Ev} {post : Int32 → St → Prop} {thr : String → St → Prop} (hX : Cx p s m args meth c y_M_cautions b_M_cautions 2 (some .int) [] D AC lo)    (σ : St) (h : wp_M_cautions_32 Γ  post thr  σ) : G p l e rm_M_cautions s m args below meth c 2 D lo (pI AC Γ post) (tX AC Γ thr) (wσ AC Γ (σ)) 0 0 32 [] [] := by
  unfold wp_M_cautions_32 at h
  refine g_iconst (v := 0) hX d_M_cautions_32 (by decide) ?_
  refine g_goto (tgt := 42) hX d_M_cautions_33 (by decide) ?_
  exact g_iret hX rfl d_M_cautions_42 ⟨_, _, rfl, rfl, h⟩
set_option maxRecDepth 100000 in
set_option maxHeartbeats 4000000 in
theorem b_M_cautions_13 {p : Program} {l : Launch} {e : Env} {s : State} {m : MethodId} {args : Array Value} {below : List Frame} {meth : Method} {c : Code} {D : va_G} {AC : Nat → ClassId} {lo : Nat} {Γ : Ev} {post : Int32 → St → Prop} {thr : String → St → Prop} (hX : Cx p s m args meth c y_M_cautions b_M_cautions 2 (some .int) [] D AC lo)   (x1 : Int32) (s0 : Int32) (σ : St) (h : wp_M_cautions_13 Γ  post thr x1 s0 σ) : G p l e rm_M_cautions s m args below meth c 2 D lo (pI AC Γ post) (tX AC Γ thr) (wσ AC Γ (σ)) 0 0 13 [(0, .ref (Γ.ad 324)), (1, .int (x1))] [.int (s0), .ref (Γ.ad 324)] := by
  unfold wp_M_cautions_13 at h
  refine g_putf (i := 324) (kf := 0) (ty := .int) hX (lt_c (by decide)) rfl (lay_MO (AC := AC) (Γ := Γ)) rfl in_M ty_M nm_M (by decide) t_805 (Or.inl rfl) rfl (by decide +kernel) rfl rfl (by show _ < List.length _; simp) d_M_cautions_13 (wσ_mthrown _) ?_
  refine g_aload_n hX d_M_cautions_16 rfl 0 rfl ?_
  refine g_getf (i := 324) (kf := 0) hX (lt_c (by decide)) rfl (lay_MO (AC := AC) (Γ := Γ)) rfl in_M (by decide) t_805 (Or.inl rfl) rfl d_M_cautions_17 ?_
  refine g_if_gt (tgt := 32) hX d_M_cautions_20 (by decide) (fun q4 => ?_) (fun q4 => ?_)
  · have h := h.1 q4
    refine g_sub [] rfl ?_
    exact b_M_cautions_32 hX   _ h
  · have h := h.2 q4
    refine g_aload_n hX d_M_cautions_23 rfl 0 rfl ?_
    refine g_getf (i := 324) (kf := 11) hX (lt_c (by decide)) rfl (lay_MO (AC := AC) (Γ := Γ)) rfl in_M (by decide) t_816 (Or.inl rfl) rfl d_M_cautions_24 ?_
    refine g_iload_n hX d_M_cautions_27 rfl 1 rfl ?_
    obtain ⟨q5, h⟩ := h
    refine g_zald (i := 333) hX (lt_c (by decide)) rfl (lay_m8 (AC := AC) (Γ := Γ)) q5 d_M_cautions_28 ?_
    refine g_if_ne (tgt := 36) hX d_M_cautions_29 (by decide) (fun q6 => ?_) (fun q6 => ?_)
    · have h := h.1 q6
      refine g_aload_n hX d_M_cautions_36 rfl 0 rfl ?_
      refine g_getf (i := 324) (kf := 18) hX (lt_c (by decide)) rfl (lay_MO (AC := AC) (Γ := Γ)) rfl in_M (by decide) t_823 (Or.inl rfl) rfl d_M_cautions_37 ?_
      refine g_iload_n hX d_M_cautions_40 rfl 1 rfl ?_
      obtain ⟨q7, h⟩ := h
      refine g_iald (i := 340) hX (lt_c (by decide)) rfl (lay_m15 (AC := AC) (Γ := Γ)) q7 d_M_cautions_41 ?_
      exact g_iret hX rfl d_M_cautions_42 ⟨_, _, rfl, rfl, h⟩
    · have h := h.2 q6
      refine g_sub [] rfl ?_
      exact b_M_cautions_32 hX   _ h
set_option maxRecDepth 100000 in
set_option maxHeartbeats 4000000 in
theorem c_M_cautions {l : Launch} {D : va_G} {AC : Nat → ClassId} {lo : Nat} {Γ : Ev} {x1 : Int32} {σ : St} {post : Int32 → St → Prop} {thr : String → St → Prop} (h : wp_M_cautions Γ x1 σ post thr) : Ct l y_M_cautions hd_M_cautions rm_M_cautions D AC lo [.ref (Γ.ad 324), .int (x1)] (wσ AC Γ σ) (pI AC Γ post) (tX AC Γ thr) := by
  refine Ct.of (by decide) (Nat.le_of_ble_eq_true rfl) ?_
  intro p e s m args below meth c hadm hX
  unfold wp_M_cautions at h
  show G p l e rm_M_cautions s m args below meth c 2 D lo (pI AC Γ post) (tX AC Γ thr) (wσ AC Γ (σ)) 0 0 0 [(0, .ref (Γ.ad 324)), (1, .int (x1))] []
  refine g_aload_n hX d_M_cautions_0 rfl 0 rfl ?_
  refine g_iload_n hX d_M_cautions_1 rfl 1 rfl ?_
  refine g_callS (k := 0) (n := 0) hX (c_M_noParcel h) hdT_M_noParcel hdO_M_noParcel t_3 t_894 t_895 ⟨⟨by decide, by decide⟩, np_M_noParcel⟩ ⟨Nat.le_of_ble_eq_true rfl, Nat.le_of_ble_eq_true rfl⟩ (Nat.le_of_ble_eq_true rfl) d_M_cautions_2 rfl ?_ (fun _ _ z => z)
  rintro _ _ ⟨v1, σ2, rfl, rfl, h⟩
  refine g_if_eq (tgt := 12) hX d_M_cautions_5 (by decide) (fun q3 => ?_) (fun q3 => ?_)
  · have h := h.1 q3
    refine g_iconst (v := 0) hX d_M_cautions_12 (by decide) ?_
    refine g_sub [0, 1] rfl ?_
    exact b_M_cautions_13 hX  _ _ _ h
  · have h := h.2 q3
    refine g_iconst (v := 1) hX d_M_cautions_8 (by decide) ?_
    refine g_goto (tgt := 13) hX d_M_cautions_9 (by decide) ?_
    refine g_sub [0, 1] rfl ?_
    exact b_M_cautions_13 hX  _ _ _ h

def wp_M_origin_13 (Γ : Ev)  (post : Int32 → St → Prop) (thr : String → St → Prop) (x1 : Int32) (x2 : Int32) (s0 : Int32) (σ : St) : Prop := (((St.I (St.sI (σ) 20 0 s0) 20 0) ≤ 0 → ((¬ x2 = 0 → ((¬ x2 = (1 : Int32) → post (-1 : Int32) (St.sI (σ) 20 0 s0)) ∧ (x2 = (1 : Int32) → (vp_in x1 80 ∧ post (St.I (St.sI (σ) 20 0 s0) 35 (x1).toNatClampNeg) (St.sI (σ) 20 0 s0))))) ∧ (x2 = 0 → (vp_in x1 80 ∧ post (St.I (St.sI (σ) 20 0 s0) 34 (x1).toNatClampNeg) (St.sI (σ) 20 0 s0))))) ∧ (¬ (St.I (St.sI (σ) 20 0 s0) 20 0) ≤ 0 → post (0 : Int32) (St.sI (σ) 20 0 s0)))
def wp_M_origin (Γ : Ev) (x1 : Int32) (x2 : Int32) (σ : St) (post : Int32 → St → Prop) (thr : String → St → Prop) : Prop := wp_M_noParcel Γ (x1) (σ) (fun v1 σ2 => ((v1 = 0 → wp_M_origin_13 Γ  post thr (x1) (x2) ((0 : Int32)) (σ2)) ∧ (¬ v1 = 0 → wp_M_origin_13 Γ  post thr (x1) (x2) ((1 : Int32)) (σ2)))) thr
abbrev rm_M_origin : Room := { frames := 1, cells := 0, slots := 0, locals := 20 }
set_option maxRecDepth 100000 in
set_option maxHeartbeats 4000000 in
theorem b_M_origin_13 {p : Program} {l : Launch} {e : Env} {s : State} {m : MethodId} {args : Array Value} {below : List Frame} {meth : Method} {c : Code} {D : va_G} {AC : Nat → ClassId} {lo : Nat} {Γ : Ev} {post : Int32 → St → Prop} {thr : String → St → Prop} (hX : Cx p s m args meth c y_M_origin b_M_origin 3 (some .int) [] D AC lo)   (x1 : Int32) (x2 : Int32) (s0 : Int32) (σ : St) (h : wp_M_origin_13 Γ  post thr x1 x2 s0 σ) : G p l e rm_M_origin s m args below meth c 3 D lo (pI AC Γ post) (tX AC Γ thr) (wσ AC Γ (σ)) 0 0 13 [(0, .ref (Γ.ad 324)), (1, .int (x1)), (2, .int (x2))] [.int (s0), .ref (Γ.ad 324)] := by
  unfold wp_M_origin_13 at h
  refine g_putf (i := 324) (kf := 0) (ty := .int) hX (lt_c (by decide)) rfl (lay_MO (AC := AC) (Γ := Γ)) rfl in_M ty_M nm_M (by decide) t_805 (Or.inl rfl) rfl (by decide +kernel) rfl rfl (by show _ < List.length _; simp) d_M_origin_13 (wσ_mthrown _) ?_
  refine g_aload_n hX d_M_origin_16 rfl 0 rfl ?_
  refine g_getf (i := 324) (kf := 0) hX (lt_c (by decide)) rfl (lay_MO (AC := AC) (Γ := Γ)) rfl in_M (by decide) t_805 (Or.inl rfl) rfl d_M_origin_17 ?_
  refine g_if_le (tgt := 27) hX d_M_origin_20 (by decide) (fun q4 => ?_) (fun q4 => ?_)
  · have h := h.1 q4
    refine g_iload_n hX d_M_origin_27 rfl 2 rfl ?_
    refine g_if_ne (tgt := 40) hX d_M_origin_28 (by decide) (fun q5 => ?_) (fun q5 => ?_)
    · have h := h.1 q5
      refine g_iload_n hX d_M_origin_40 rfl 2 rfl ?_
      refine g_iconst (v := 1) hX d_M_origin_41 (by decide) ?_
      refine g_icmp_ne (tgt := 54) hX d_M_origin_42 (by decide) (fun q6 => ?_) (fun q6 => ?_)
      · have h := h.1 q6
        refine g_iconst (v := -1) hX d_M_origin_54 (by decide) ?_
        exact g_iret hX rfl d_M_origin_55 ⟨_, _, rfl, rfl, h⟩
      · have h := h.2 q6
        refine g_aload_n hX d_M_origin_45 rfl 0 rfl ?_
        refine g_getf (i := 324) (kf := 20) hX (lt_c (by decide)) rfl (lay_MO (AC := AC) (Γ := Γ)) rfl in_M (by decide) t_825 (Or.inl rfl) rfl d_M_origin_46 ?_
        refine g_iload_n hX d_M_origin_49 rfl 1 rfl ?_
        obtain ⟨q7, h⟩ := h
        refine g_iald (i := 342) hX (lt_c (by decide)) rfl (lay_m17 (AC := AC) (Γ := Γ)) q7 d_M_origin_50 ?_
        refine g_goto (tgt := 55) hX d_M_origin_51 (by decide) ?_
        exact g_iret hX rfl d_M_origin_55 ⟨_, _, rfl, rfl, h⟩
    · have h := h.2 q5
      refine g_aload_n hX d_M_origin_31 rfl 0 rfl ?_
      refine g_getf (i := 324) (kf := 19) hX (lt_c (by decide)) rfl (lay_MO (AC := AC) (Γ := Γ)) rfl in_M (by decide) t_824 (Or.inl rfl) rfl d_M_origin_32 ?_
      refine g_iload_n hX d_M_origin_35 rfl 1 rfl ?_
      obtain ⟨q8, h⟩ := h
      refine g_iald (i := 341) hX (lt_c (by decide)) rfl (lay_m16 (AC := AC) (Γ := Γ)) q8 d_M_origin_36 ?_
      refine g_goto (tgt := 55) hX d_M_origin_37 (by decide) ?_
      exact g_iret hX rfl d_M_origin_55 ⟨_, _, rfl, rfl, h⟩
  · have h := h.2 q4
    refine g_iconst (v := 0) hX d_M_origin_23 (by decide) ?_
    refine g_goto (tgt := 55) hX d_M_origin_24 (by decide) ?_
    exact g_iret hX rfl d_M_origin_55 ⟨_, _, rfl, rfl, h⟩
set_option maxRecDepth 100000 in
set_option maxHeartbeats 4000000 in
theorem c_M_origin {l : Launch} {D : va_G} {AC : Nat → ClassId} {lo : Nat} {Γ : Ev} {x1 : Int32} {x2 : Int32} {σ : St} {post : Int32 → St → Prop} {thr : String → St → Prop} (h : wp_M_origin Γ x1 x2 σ post thr) : Ct l y_M_origin hd_M_origin rm_M_origin D AC lo [.ref (Γ.ad 324), .int (x1), .int (x2)] (wσ AC Γ σ) (pI AC Γ post) (tX AC Γ thr) := by
  refine Ct.of (by decide) (Nat.le_of_ble_eq_true rfl) ?_
  intro p e s m args below meth c hadm hX
  unfold wp_M_origin at h
  show G p l e rm_M_origin s m args below meth c 3 D lo (pI AC Γ post) (tX AC Γ thr) (wσ AC Γ (σ)) 0 0 0 [(0, .ref (Γ.ad 324)), (1, .int (x1)), (2, .int (x2))] []
  refine g_aload_n hX d_M_origin_0 rfl 0 rfl ?_
  refine g_iload_n hX d_M_origin_1 rfl 1 rfl ?_
  refine g_callS (k := 0) (n := 0) hX (c_M_noParcel h) hdT_M_noParcel hdO_M_noParcel t_3 t_894 t_895 ⟨⟨by decide, by decide⟩, np_M_noParcel⟩ ⟨Nat.le_of_ble_eq_true rfl, Nat.le_of_ble_eq_true rfl⟩ (Nat.le_of_ble_eq_true rfl) d_M_origin_2 rfl ?_ (fun _ _ z => z)
  rintro _ _ ⟨v1, σ2, rfl, rfl, h⟩
  refine g_if_eq (tgt := 12) hX d_M_origin_5 (by decide) (fun q3 => ?_) (fun q3 => ?_)
  · have h := h.1 q3
    refine g_iconst (v := 0) hX d_M_origin_12 (by decide) ?_
    refine g_sub [0, 1, 2] rfl ?_
    exact b_M_origin_13 hX  _ _ _ _ h
  · have h := h.2 q3
    refine g_iconst (v := 1) hX d_M_origin_8 (by decide) ?_
    refine g_goto (tgt := 13) hX d_M_origin_9 (by decide) ?_
    refine g_sub [0, 1, 2] rfl ?_
    exact b_M_origin_13 hX  _ _ _ _ h

def wp_M_holding_74 (Γ : Ev) (k30 : Int32 → Int32 → Int32 → St → Prop) (post : Int32 → St → Prop) (thr : String → St → Prop) (x1 : Int32) (x3 : Int32) (x4 : Int32) (σ : St) : Prop := k30 (x1) (x3) ((x4 + 1)) (σ)
def wp_M_holding_30 (Γ : Ev)  (post : Int32 → St → Prop) (thr : String → St → Prop) : Nat → Int32 → Int32 → Int32 → St → Prop
  | 0 => fun _ _ _ _ => False
  | fuel + 1 => fun x1 x3 x4 σ => (((80 : Int32) ≤ x4 → post (-1 : Int32) (σ)) ∧ (¬ (80 : Int32) ≤ x4 → (vp_in x4 80 ∧ (((St.I (σ) 29 (x4).toNatClampNeg) = 0 → wp_M_holding_74 Γ (fun x1 x3 x4 σ => wp_M_holding_30 Γ  post thr fuel x1 x3 x4 σ) post thr (x1) (x3) (x4) (σ)) ∧ (¬ (St.I (σ) 29 (x4).toNatClampNeg) = 0 → (vp_in (((8 : Int32) * x4) + x1) 640 ∧ (((lg_cmp (St.L (σ) 4 ((((8 : Int32) * x4) + x1)).toNatClampNeg) (0 : Int64)) ≤ 0 → wp_M_holding_74 Γ (fun x1 x3 x4 σ => wp_M_holding_30 Γ  post thr fuel x1 x3 x4 σ) post thr (x1) (x3) (x4) (σ)) ∧ (¬ (lg_cmp (St.L (σ) 4 ((((8 : Int32) * x4) + x1)).toNatClampNeg) (0 : Int64)) ≤ 0 → ((¬ x3 = 0 → wp_M_holding_74 Γ (fun x1 x3 x4 σ => wp_M_holding_30 Γ  post thr fuel x1 x3 x4 σ) post thr (x1) ((x3 + (-1))) (x4) (σ)) ∧ (x3 = 0 → post x4 (σ)))))))))))
def wp_M_holding_13 (Γ : Ev)  (post : Int32 → St → Prop) (thr : String → St → Prop) (x1 : Int32) (x2 : Int32) (s0 : Int32) (σ : St) : Prop := (((St.I (St.sI (σ) 20 0 s0) 20 0) ≤ 0 → (∃ f11, wp_M_holding_30 Γ  post thr f11 (x1) (x2) ((0 : Int32)) (St.sI (σ) 20 0 s0))) ∧ (¬ (St.I (St.sI (σ) 20 0 s0) 20 0) ≤ 0 → post (0 : Int32) (St.sI (σ) 20 0 s0)))
def wp_M_holding (Γ : Ev) (x1 : Int32) (x2 : Int32) (σ : St) (post : Int32 → St → Prop) (thr : String → St → Prop) : Prop := wp_M_noPerson Γ (x1) (σ) (fun v1 σ2 => ((v1 = 0 → wp_M_holding_13 Γ  post thr (x1) (x2) ((0 : Int32)) (σ2)) ∧ (¬ v1 = 0 → wp_M_holding_13 Γ  post thr (x1) (x2) ((1 : Int32)) (σ2)))) thr
abbrev rm_M_holding : Room := { frames := 1, cells := 0, slots := 0, locals := 20 }
set_option maxRecDepth 100000 in
set_option maxHeartbeats 4000000 in
theorem b_M_holding_74 {p : Program} {l : Launch} {e : Env} {s : State} {m : MethodId} {args : Array Value} {below : List Frame} {meth : Method} {c : Code} {D : va_G} {AC : Nat → ClassId} {lo : Nat} {Γ : Ev} {post : Int32 → St → Prop} {thr : String → St → Prop} (hX : Cx p s m args meth c y_M_holding b_M_holding 5 (some .int) [] D AC lo) {k30 : Int32 → Int32 → Int32 → St → Prop} (hk30 : ∀ (x1 : Int32) (x3 : Int32) (x4 : Int32) (σ : St), k30 x1 x3 x4 σ → G p l e rm_M_holding s m args below meth c 5 D lo (pI AC Γ post) (tX AC Γ thr) (wσ AC Γ (σ)) 0 0 30 [(0, .ref (Γ.ad 324)), (1, .int (x1)), (3, .int (x3)), (4, .int (x4))] []) (x1 : Int32) (x3 : Int32) (x4 : Int32) (σ : St) (h : wp_M_holding_74 Γ k30 post thr x1 x3 x4 σ) : G p l e rm_M_holding s m args below meth c 5 D lo (pI AC Γ post) (tX AC Γ thr) (wσ AC Γ (σ)) 0 0 74 [(0, .ref (Γ.ad 324)), (1, .int (x1)), (3, .int (x3)), (4, .int (x4))] [] := by
  unfold wp_M_holding_74 at h
  refine g_iinc (v := x4 + 1) hX d_M_holding_74 3 rfl (congrArg (x4 + ·) (by decide)) (by decide) rfl ?_
  refine g_goto (tgt := 30) hX d_M_holding_77 (by decide) ?_
  refine g_sub [1, 2, 3, 0] rfl ?_
  exact hk30 (x1) (x3) ((x4 + 1)) (σ) h
set_option maxRecDepth 100000 in
set_option maxHeartbeats 4000000 in
theorem b_M_holding_30 {p : Program} {l : Launch} {e : Env} {s : State} {m : MethodId} {args : Array Value} {below : List Frame} {meth : Method} {c : Code} {D : va_G} {AC : Nat → ClassId} {lo : Nat} {Γ : Ev} {post : Int32 → St → Prop} {thr : String → St → Prop} (hX : Cx p s m args meth c y_M_holding b_M_holding 5 (some .int) [] D AC lo)   : ∀ (fuel : Nat) (x1 : Int32) (x3 : Int32) (x4 : Int32) (σ : St), wp_M_holding_30 Γ  post thr fuel x1 x3 x4 σ → G p l e rm_M_holding s m args below meth c 5 D lo (pI AC Γ post) (tX AC Γ thr) (wσ AC Γ (σ)) 0 0 30 [(0, .ref (Γ.ad 324)), (1, .int (x1)), (3, .int (x3)), (4, .int (x4))] [] := by
  intro fuel
  induction fuel with
  | zero => intro x1 x3 x4 σ h; exact False.elim h
  | succ fuel ih =>
    intro x1 x3 x4 σ h
    simp only [wp_M_holding_30] at h
    refine g_iload hX d_M_holding_30 3 rfl ?_
    refine g_bipush (v := 80) hX d_M_holding_32 (by decide) ?_
    refine g_icmp_ge (tgt := 80) hX d_M_holding_34 (by decide) (fun q5 => ?_) (fun q5 => ?_)
    · have h := h.1 q5
      refine g_iconst (v := -1) hX d_M_holding_80 (by decide) ?_
      exact g_iret hX rfl d_M_holding_81 ⟨_, _, rfl, rfl, h⟩
    · have h := h.2 q5
      refine g_aload_n hX d_M_holding_37 rfl 0 rfl ?_
      refine g_getf (i := 324) (kf := 11) hX (lt_c (by decide)) rfl (lay_MO (AC := AC) (Γ := Γ)) rfl in_M (by decide) t_816 (Or.inl rfl) rfl d_M_holding_38 ?_
      refine g_iload hX d_M_holding_41 3 rfl ?_
      obtain ⟨q6, h⟩ := h
      refine g_zald (i := 333) hX (lt_c (by decide)) rfl (lay_m8 (AC := AC) (Γ := Γ)) q6 d_M_holding_43 ?_
      refine g_if_eq (tgt := 74) hX d_M_holding_44 (by decide) (fun q7 => ?_) (fun q7 => ?_)
      · have h := h.1 q7
        refine g_sub [0, 1, 2, 3] rfl ?_
        exact b_M_holding_74 hX (fun _ _ _ _ z => ih _ _ _ _ z) _ _ _ _ h
      · have h := h.2 q7
        refine g_aload_n hX d_M_holding_47 rfl 0 rfl ?_
        refine g_getf (i := 324) (kf := 13) hX (lt_c (by decide)) rfl (lay_MO (AC := AC) (Γ := Γ)) rfl in_M (by decide) t_818 (Or.inl rfl) rfl d_M_holding_48 ?_
        refine g_bipush (v := 8) hX d_M_holding_51 (by decide) ?_
        refine g_iload hX d_M_holding_53 3 rfl ?_
        refine g_imul hX d_M_holding_55 ?_
        refine g_iload_n hX d_M_holding_56 rfl 1 rfl ?_
        refine g_iadd hX d_M_holding_57 ?_
        obtain ⟨q8, h⟩ := h
        refine g_lald (i := 335) hX (lt_c (by decide)) rfl (lay_m10 (AC := AC) (Γ := Γ)) q8 d_M_holding_58 ?_
        refine g_lconst (v := 0) hX d_M_holding_59 (by decide) ?_
        refine g_lcmp hX d_M_holding_60 ?_
        refine g_if_le (tgt := 74) hX d_M_holding_61 (by decide) (fun q9 => ?_) (fun q9 => ?_)
        · have h := h.1 q9
          refine g_sub [0, 1, 2, 3] rfl ?_
          exact b_M_holding_74 hX (fun _ _ _ _ z => ih _ _ _ _ z) _ _ _ _ h
        · have h := h.2 q9
          refine g_iload_n hX d_M_holding_64 rfl 2 rfl ?_
          refine g_if_ne (tgt := 71) hX d_M_holding_65 (by decide) (fun q10 => ?_) (fun q10 => ?_)
          · have h := h.1 q10
            refine g_iinc (v := x3 + (-1)) hX d_M_holding_71 2 rfl (congrArg (x3 + ·) (by decide)) (by decide) rfl ?_
            refine g_sub [1, 2, 0, 3] rfl ?_
            exact b_M_holding_74 hX (fun _ _ _ _ z => ih _ _ _ _ z) _ _ _ _ h
          · have h := h.2 q10
            refine g_iload hX d_M_holding_68 3 rfl ?_
            exact g_iret hX rfl d_M_holding_70 ⟨_, _, rfl, rfl, h⟩
set_option maxRecDepth 100000 in
set_option maxHeartbeats 4000000 in
theorem b_M_holding_13 {p : Program} {l : Launch} {e : Env} {s : State} {m : MethodId} {args : Array Value} {below : List Frame} {meth : Method} {c : Code} {D : va_G} {AC : Nat → ClassId} {lo : Nat} {Γ : Ev} {post : Int32 → St → Prop} {thr : String → St → Prop} (hX : Cx p s m args meth c y_M_holding b_M_holding 5 (some .int) [] D AC lo)   (x1 : Int32) (x2 : Int32) (s0 : Int32) (σ : St) (h : wp_M_holding_13 Γ  post thr x1 x2 s0 σ) : G p l e rm_M_holding s m args below meth c 5 D lo (pI AC Γ post) (tX AC Γ thr) (wσ AC Γ (σ)) 0 0 13 [(0, .ref (Γ.ad 324)), (1, .int (x1)), (2, .int (x2))] [.int (s0), .ref (Γ.ad 324)] := by
  unfold wp_M_holding_13 at h
  refine g_putf (i := 324) (kf := 0) (ty := .int) hX (lt_c (by decide)) rfl (lay_MO (AC := AC) (Γ := Γ)) rfl in_M ty_M nm_M (by decide) t_805 (Or.inl rfl) rfl (by decide +kernel) rfl rfl (by show _ < List.length _; simp) d_M_holding_13 (wσ_mthrown _) ?_
  refine g_aload_n hX d_M_holding_16 rfl 0 rfl ?_
  refine g_getf (i := 324) (kf := 0) hX (lt_c (by decide)) rfl (lay_MO (AC := AC) (Γ := Γ)) rfl in_M (by decide) t_805 (Or.inl rfl) rfl d_M_holding_17 ?_
  refine g_if_le (tgt := 25) hX d_M_holding_20 (by decide) (fun q4 => ?_) (fun q4 => ?_)
  · have h := h.1 q4
    refine g_iload_n hX d_M_holding_25 rfl 2 rfl ?_
    refine g_istore_n hX d_M_holding_26 rfl (by decide) rfl ?_
    refine g_iconst (v := 0) hX d_M_holding_27 (by decide) ?_
    refine g_istore hX d_M_holding_28 (by decide) rfl ?_
    refine g_sub [2, 3, 1, 0] rfl ?_
    obtain ⟨f11, h⟩ := h
    exact b_M_holding_30 hX  f11 _ _ _ _ h
  · have h := h.2 q4
    refine g_iconst (v := 0) hX d_M_holding_23 (by decide) ?_
    exact g_iret hX rfl d_M_holding_24 ⟨_, _, rfl, rfl, h⟩
set_option maxRecDepth 100000 in
set_option maxHeartbeats 4000000 in
theorem c_M_holding {l : Launch} {D : va_G} {AC : Nat → ClassId} {lo : Nat} {Γ : Ev} {x1 : Int32} {x2 : Int32} {σ : St} {post : Int32 → St → Prop} {thr : String → St → Prop} (h : wp_M_holding Γ x1 x2 σ post thr) : Ct l y_M_holding hd_M_holding rm_M_holding D AC lo [.ref (Γ.ad 324), .int (x1), .int (x2)] (wσ AC Γ σ) (pI AC Γ post) (tX AC Γ thr) := by
  refine Ct.of (by decide) (Nat.le_of_ble_eq_true rfl) ?_
  intro p e s m args below meth c hadm hX
  unfold wp_M_holding at h
  show G p l e rm_M_holding s m args below meth c 5 D lo (pI AC Γ post) (tX AC Γ thr) (wσ AC Γ (σ)) 0 0 0 [(0, .ref (Γ.ad 324)), (1, .int (x1)), (2, .int (x2))] []
  refine g_aload_n hX d_M_holding_0 rfl 0 rfl ?_
  refine g_iload_n hX d_M_holding_1 rfl 1 rfl ?_
  refine g_callS (k := 0) (n := 0) hX (c_M_noPerson h) hdT_M_noPerson hdO_M_noPerson t_3 t_882 t_883 ⟨⟨by decide, by decide⟩, np_M_noPerson⟩ ⟨Nat.le_of_ble_eq_true rfl, Nat.le_of_ble_eq_true rfl⟩ (Nat.le_of_ble_eq_true rfl) d_M_holding_2 rfl ?_ (fun _ _ z => z)
  rintro _ _ ⟨v1, σ2, rfl, rfl, h⟩
  refine g_if_eq (tgt := 12) hX d_M_holding_5 (by decide) (fun q3 => ?_) (fun q3 => ?_)
  · have h := h.1 q3
    refine g_iconst (v := 0) hX d_M_holding_12 (by decide) ?_
    refine g_sub [0, 1, 2] rfl ?_
    exact b_M_holding_13 hX  _ _ _ _ h
  · have h := h.2 q3
    refine g_iconst (v := 1) hX d_M_holding_8 (by decide) ?_
    refine g_goto (tgt := 13) hX d_M_holding_9 (by decide) ?_
    refine g_sub [0, 1, 2] rfl ?_
    exact b_M_holding_13 hX  _ _ _ _ h

def wp_M_owed_89 (Γ : Ev) (k21 : Int32 → Int64 → Int32 → St → Prop) (post : Int64 → St → Prop) (thr : String → St → Prop) (x1 : Int32) (x4 : Int32) (s0 : Int64) (σ : St) : Prop := k21 (x1) (s0) ((x4 + 1)) (σ)
def wp_M_owed_88 (Γ : Ev) (k21 : Int32 → Int64 → Int32 → St → Prop) (post : Int64 → St → Prop) (thr : String → St → Prop) (x1 : Int32) (x2 : Int64) (x4 : Int32) (σ : St) : Prop := wp_M_owed_89 Γ k21 post thr (x1) (x4) (x2) (σ)
def wp_M_owed_21 (Γ : Ev)  (post : Int64 → St → Prop) (thr : String → St → Prop) : Nat → Int32 → Int64 → Int32 → St → Prop
  | 0 => fun _ _ _ _ => False
  | fuel + 1 => fun x1 x2 x4 σ => (((320 : Int32) ≤ x4 → post x2 (σ)) ∧ (¬ (320 : Int32) ≤ x4 → ((¬ (St.I (σ) 20 0) = 0 → post x2 (σ)) ∧ ((St.I (σ) 20 0) = 0 → (vp_in (x4 / (4 : Int32)) 80 ∧ (((St.I (σ) 29 ((x4 / (4 : Int32))).toNatClampNeg) = 0 → wp_M_owed_88 Γ (fun x1 x2 x4 σ => wp_M_owed_21 Γ  post thr fuel x1 x2 x4 σ) post thr (x1) (x2) (x4) (σ)) ∧ (¬ (St.I (σ) 29 ((x4 / (4 : Int32))).toNatClampNeg) = 0 → (vp_in (x4 / (4 : Int32)) 80 ∧ (((St.I (σ) 30 ((x4 / (4 : Int32))).toNatClampNeg) ≤ (x4 - x4 / (4 : Int32) * (4 : Int32)) → wp_M_owed_88 Γ (fun x1 x2 x4 σ => wp_M_owed_21 Γ  post thr fuel x1 x2 x4 σ) post thr (x1) (x2) (x4) (σ)) ∧ (¬ (St.I (σ) 30 ((x4 / (4 : Int32))).toNatClampNeg) ≤ (x4 - x4 / (4 : Int32) * (4 : Int32)) → (vp_in x4 320 ∧ ((¬ (St.I (σ) 31 (x4).toNatClampNeg) = x1 → wp_M_owed_88 Γ (fun x1 x2 x4 σ => wp_M_owed_21 Γ  post thr fuel x1 x2 x4 σ) post thr (x1) (x2) (x4) (σ)) ∧ ((St.I (σ) 31 (x4).toNatClampNeg) = x1 → (vp_in x4 320 ∧ wp_M_owed_89 Γ (fun x1 x2 x4 σ => wp_M_owed_21 Γ  post thr fuel x1 x2 x4 σ) post thr (x1) (x4) ((x2 + (Int32.toInt64 (St.I (σ) 32 (x4).toNatClampNeg)))) (σ)))))))))))))))
def wp_M_owed_13 (Γ : Ev)  (post : Int64 → St → Prop) (thr : String → St → Prop) (x1 : Int32) (s0 : Int32) (σ : St) : Prop := (∃ f13, wp_M_owed_21 Γ  post thr f13 (x1) ((0 : Int64)) ((0 : Int32)) (St.sI (σ) 20 0 s0))
def wp_M_owed (Γ : Ev) (x1 : Int32) (σ : St) (post : Int64 → St → Prop) (thr : String → St → Prop) : Prop := wp_M_noPerson Γ (x1) (σ) (fun v1 σ2 => ((v1 = 0 → wp_M_owed_13 Γ  post thr (x1) ((0 : Int32)) (σ2)) ∧ (¬ v1 = 0 → wp_M_owed_13 Γ  post thr (x1) ((1 : Int32)) (σ2)))) thr
abbrev rm_M_owed : Room := { frames := 1, cells := 0, slots := 0, locals := 20 }
set_option maxRecDepth 100000 in
set_option maxHeartbeats 4000000 in
theorem b_M_owed_89 {p : Program} {l : Launch} {e : Env} {s : State} {m : MethodId} {args : Array Value} {below : List Frame} {meth : Method} {c : Code} {D : va_G} {AC : Nat → ClassId} {lo : Nat} {Γ : Ev} {post : Int64 → St → Prop} {thr : String → St → Prop} (hX : Cx p s m args meth c y_M_owed b_M_owed 5 (some .long) [] D AC lo) {k21 : Int32 → Int64 → Int32 → St → Prop} (hk21 : ∀ (x1 : Int32) (x2 : Int64) (x4 : Int32) (σ : St), k21 x1 x2 x4 σ → G p l e rm_M_owed s m args below meth c 5 D lo (pL AC Γ post) (tX AC Γ thr) (wσ AC Γ (σ)) 0 0 21 [(0, .ref (Γ.ad 324)), (1, .int (x1)), (2, .long (x2)), (4, .int (x4))] []) (x1 : Int32) (x4 : Int32) (s0 : Int64) (σ : St) (h : wp_M_owed_89 Γ k21 post thr x1 x4 s0 σ) : G p l e rm_M_owed s m args below meth c 5 D lo (pL AC Γ post) (tX AC Γ thr) (wσ AC Γ (σ)) 0 0 89 [(0, .ref (Γ.ad 324)), (1, .int (x1)), (4, .int (x4))] [.long (s0)] := by
  unfold wp_M_owed_89 at h
  refine g_lstore_n hX d_M_owed_89 rfl (by decide) rfl ?_
  refine g_iinc (v := x4 + 1) hX d_M_owed_90 3 rfl (congrArg (x4 + ·) (by decide)) (by decide) rfl ?_
  refine g_goto (tgt := 21) hX d_M_owed_93 (by decide) ?_
  refine g_sub [2, 3, 1, 0] rfl ?_
  exact hk21 (x1) (s0) ((x4 + 1)) (σ) h
set_option maxRecDepth 100000 in
set_option maxHeartbeats 4000000 in
theorem b_M_owed_88 {p : Program} {l : Launch} {e : Env} {s : State} {m : MethodId} {args : Array Value} {below : List Frame} {meth : Method} {c : Code} {D : va_G} {AC : Nat → ClassId} {lo : Nat} {Γ : Ev} {post : Int64 → St → Prop} {thr : String → St → Prop} (hX : Cx p s m args meth c y_M_owed b_M_owed 5 (some .long) [] D AC lo) {k21 : Int32 → Int64 → Int32 → St → Prop} (hk21 : ∀ (x1 : Int32) (x2 : Int64) (x4 : Int32) (σ : St), k21 x1 x2 x4 σ → G p l e rm_M_owed s m args below meth c 5 D lo (pL AC Γ post) (tX AC Γ thr) (wσ AC Γ (σ)) 0 0 21 [(0, .ref (Γ.ad 324)), (1, .int (x1)), (2, .long (x2)), (4, .int (x4))] []) (x1 : Int32) (x2 : Int64) (x4 : Int32) (σ : St) (h : wp_M_owed_88 Γ k21 post thr x1 x2 x4 σ) : G p l e rm_M_owed s m args below meth c 5 D lo (pL AC Γ post) (tX AC Γ thr) (wσ AC Γ (σ)) 0 0 88 [(0, .ref (Γ.ad 324)), (1, .int (x1)), (2, .long (x2)), (4, .int (x4))] [] := by
  unfold wp_M_owed_88 at h
  refine g_lload_n hX d_M_owed_88 rfl 2 rfl ?_
  refine g_sub [0, 1, 3] rfl ?_
  exact b_M_owed_89 hX hk21 _ _ _ _ h
set_option maxRecDepth 100000 in
set_option maxHeartbeats 4000000 in
theorem b_M_owed_21 {p : Program} {l : Launch} {e : Env} {s : State} {m : MethodId} {args : Array Value} {below : List Frame} {meth : Method} {c : Code} {D : va_G} {AC : Nat → ClassId} {lo : Nat} {Γ : Ev} {post : Int64 → St → Prop} {thr : String → St → Prop} (hX : Cx p s m args meth c y_M_owed b_M_owed 5 (some .long) [] D AC lo)   : ∀ (fuel : Nat) (x1 : Int32) (x2 : Int64) (x4 : Int32) (σ : St), wp_M_owed_21 Γ  post thr fuel x1 x2 x4 σ → G p l e rm_M_owed s m args below meth c 5 D lo (pL AC Γ post) (tX AC Γ thr) (wσ AC Γ (σ)) 0 0 21 [(0, .ref (Γ.ad 324)), (1, .int (x1)), (2, .long (x2)), (4, .int (x4))] [] := by
  intro fuel
  induction fuel with
  | zero => intro x1 x2 x4 σ h; exact False.elim h
  | succ fuel ih =>
    intro x1 x2 x4 σ h
    simp only [wp_M_owed_21] at h
    refine g_iload hX d_M_owed_21 3 rfl ?_
    refine g_sipush (v := 320) hX d_M_owed_23 (by decide) ?_
    refine g_icmp_ge (tgt := 96) hX d_M_owed_26 (by decide) (fun q4 => ?_) (fun q4 => ?_)
    · have h := h.1 q4
      refine g_lload_n hX d_M_owed_96 rfl 2 rfl ?_
      exact g_lret hX rfl d_M_owed_97 ⟨_, _, rfl, rfl, h⟩
    · have h := h.2 q4
      refine g_aload_n hX d_M_owed_29 rfl 0 rfl ?_
      refine g_getf (i := 324) (kf := 0) hX (lt_c (by decide)) rfl (lay_MO (AC := AC) (Γ := Γ)) rfl in_M (by decide) t_805 (Or.inl rfl) rfl d_M_owed_30 ?_
      refine g_if_ne (tgt := 96) hX d_M_owed_33 (by decide) (fun q5 => ?_) (fun q5 => ?_)
      · have h := h.1 q5
        refine g_lload_n hX d_M_owed_96 rfl 2 rfl ?_
        exact g_lret hX rfl d_M_owed_97 ⟨_, _, rfl, rfl, h⟩
      · have h := h.2 q5
        refine g_aload_n hX d_M_owed_36 rfl 0 rfl ?_
        refine g_getf (i := 324) (kf := 11) hX (lt_c (by decide)) rfl (lay_MO (AC := AC) (Γ := Γ)) rfl in_M (by decide) t_816 (Or.inl rfl) rfl d_M_owed_37 ?_
        refine g_iload hX d_M_owed_40 3 rfl ?_
        refine g_iconst (v := 4) hX d_M_owed_42 (by decide) ?_
        refine g_idiv hX d_M_owed_43 (by decide) ?_
        obtain ⟨q6, h⟩ := h
        refine g_zald (i := 333) hX (lt_c (by decide)) rfl (lay_m8 (AC := AC) (Γ := Γ)) q6 d_M_owed_44 ?_
        refine g_if_eq (tgt := 88) hX d_M_owed_45 (by decide) (fun q7 => ?_) (fun q7 => ?_)
        · have h := h.1 q7
          refine g_sub [0, 1, 2, 3] rfl ?_
          exact b_M_owed_88 hX (fun _ _ _ _ z => ih _ _ _ _ z) _ _ _ _ h
        · have h := h.2 q7
          refine g_iload hX d_M_owed_48 3 rfl ?_
          refine g_iconst (v := 4) hX d_M_owed_50 (by decide) ?_
          refine g_irem hX d_M_owed_51 (by decide) ?_
          refine g_aload_n hX d_M_owed_52 rfl 0 rfl ?_
          refine g_getf (i := 324) (kf := 15) hX (lt_c (by decide)) rfl (lay_MO (AC := AC) (Γ := Γ)) rfl in_M (by decide) t_820 (Or.inl rfl) rfl d_M_owed_53 ?_
          refine g_iload hX d_M_owed_56 3 rfl ?_
          refine g_iconst (v := 4) hX d_M_owed_58 (by decide) ?_
          refine g_idiv hX d_M_owed_59 (by decide) ?_
          obtain ⟨q8, h⟩ := h
          refine g_iald (i := 337) hX (lt_c (by decide)) rfl (lay_m12 (AC := AC) (Γ := Γ)) q8 d_M_owed_60 ?_
          refine g_icmp_ge (tgt := 88) hX d_M_owed_61 (by decide) (fun q9 => ?_) (fun q9 => ?_)
          · have h := h.1 q9
            refine g_sub [0, 1, 2, 3] rfl ?_
            exact b_M_owed_88 hX (fun _ _ _ _ z => ih _ _ _ _ z) _ _ _ _ h
          · have h := h.2 q9
            refine g_aload_n hX d_M_owed_64 rfl 0 rfl ?_
            refine g_getf (i := 324) (kf := 16) hX (lt_c (by decide)) rfl (lay_MO (AC := AC) (Γ := Γ)) rfl in_M (by decide) t_821 (Or.inl rfl) rfl d_M_owed_65 ?_
            refine g_iload hX d_M_owed_68 3 rfl ?_
            obtain ⟨q10, h⟩ := h
            refine g_iald (i := 338) hX (lt_c (by decide)) rfl (lay_m13 (AC := AC) (Γ := Γ)) q10 d_M_owed_70 ?_
            refine g_iload_n hX d_M_owed_71 rfl 1 rfl ?_
            refine g_icmp_ne (tgt := 88) hX d_M_owed_72 (by decide) (fun q11 => ?_) (fun q11 => ?_)
            · have h := h.1 q11
              refine g_sub [0, 1, 2, 3] rfl ?_
              exact b_M_owed_88 hX (fun _ _ _ _ z => ih _ _ _ _ z) _ _ _ _ h
            · have h := h.2 q11
              refine g_lload_n hX d_M_owed_75 rfl 2 rfl ?_
              refine g_aload_n hX d_M_owed_76 rfl 0 rfl ?_
              refine g_getf (i := 324) (kf := 17) hX (lt_c (by decide)) rfl (lay_MO (AC := AC) (Γ := Γ)) rfl in_M (by decide) t_822 (Or.inl rfl) rfl d_M_owed_77 ?_
              refine g_iload hX d_M_owed_80 3 rfl ?_
              obtain ⟨q12, h⟩ := h
              refine g_iald (i := 339) hX (lt_c (by decide)) rfl (lay_m14 (AC := AC) (Γ := Γ)) q12 d_M_owed_82 ?_
              refine g_i2l hX d_M_owed_83 ?_
              refine g_ladd hX d_M_owed_84 ?_
              refine g_goto (tgt := 89) hX d_M_owed_85 (by decide) ?_
              refine g_sub [0, 1, 3] rfl ?_
              exact b_M_owed_89 hX (fun _ _ _ _ z => ih _ _ _ _ z) _ _ _ _ h
set_option maxRecDepth 100000 in
set_option maxHeartbeats 4000000 in
theorem b_M_owed_13 {p : Program} {l : Launch} {e : Env} {s : State} {m : MethodId} {args : Array Value} {below : List Frame} {meth : Method} {c : Code} {D : va_G} {AC : Nat → ClassId} {lo : Nat} {Γ : Ev} {post : Int64 → St → Prop} {thr : String → St → Prop} (hX : Cx p s m args meth c y_M_owed b_M_owed 5 (some .long) [] D AC lo)   (x1 : Int32) (s0 : Int32) (σ : St) (h : wp_M_owed_13 Γ  post thr x1 s0 σ) : G p l e rm_M_owed s m args below meth c 5 D lo (pL AC Γ post) (tX AC Γ thr) (wσ AC Γ (σ)) 0 0 13 [(0, .ref (Γ.ad 324)), (1, .int (x1))] [.int (s0), .ref (Γ.ad 324)] := by
  unfold wp_M_owed_13 at h
  refine g_putf (i := 324) (kf := 0) (ty := .int) hX (lt_c (by decide)) rfl (lay_MO (AC := AC) (Γ := Γ)) rfl in_M ty_M nm_M (by decide) t_805 (Or.inl rfl) rfl (by decide +kernel) rfl rfl (by show _ < List.length _; simp) d_M_owed_13 (wσ_mthrown _) ?_
  refine g_lconst (v := 0) hX d_M_owed_16 (by decide) ?_
  refine g_lstore_n hX d_M_owed_17 rfl (by decide) rfl ?_
  refine g_iconst (v := 0) hX d_M_owed_18 (by decide) ?_
  refine g_istore hX d_M_owed_19 (by decide) rfl ?_
  refine g_sub [2, 3, 1, 0] rfl ?_
  obtain ⟨f13, h⟩ := h
  exact b_M_owed_21 hX  f13 _ _ _ _ h
set_option maxRecDepth 100000 in
set_option maxHeartbeats 4000000 in
theorem c_M_owed {l : Launch} {D : va_G} {AC : Nat → ClassId} {lo : Nat} {Γ : Ev} {x1 : Int32} {σ : St} {post : Int64 → St → Prop} {thr : String → St → Prop} (h : wp_M_owed Γ x1 σ post thr) : Ct l y_M_owed hd_M_owed rm_M_owed D AC lo [.ref (Γ.ad 324), .int (x1)] (wσ AC Γ σ) (pL AC Γ post) (tX AC Γ thr) := by
  refine Ct.of (by decide) (Nat.le_of_ble_eq_true rfl) ?_
  intro p e s m args below meth c hadm hX
  unfold wp_M_owed at h
  show G p l e rm_M_owed s m args below meth c 5 D lo (pL AC Γ post) (tX AC Γ thr) (wσ AC Γ (σ)) 0 0 0 [(0, .ref (Γ.ad 324)), (1, .int (x1))] []
  refine g_aload_n hX d_M_owed_0 rfl 0 rfl ?_
  refine g_iload_n hX d_M_owed_1 rfl 1 rfl ?_
  refine g_callS (k := 0) (n := 0) hX (c_M_noPerson h) hdT_M_noPerson hdO_M_noPerson t_3 t_882 t_883 ⟨⟨by decide, by decide⟩, np_M_noPerson⟩ ⟨Nat.le_of_ble_eq_true rfl, Nat.le_of_ble_eq_true rfl⟩ (Nat.le_of_ble_eq_true rfl) d_M_owed_2 rfl ?_ (fun _ _ z => z)
  rintro _ _ ⟨v1, σ2, rfl, rfl, h⟩
  refine g_if_eq (tgt := 12) hX d_M_owed_5 (by decide) (fun q3 => ?_) (fun q3 => ?_)
  · have h := h.1 q3
    refine g_iconst (v := 0) hX d_M_owed_12 (by decide) ?_
    refine g_sub [0, 1] rfl ?_
    exact b_M_owed_13 hX  _ _ _ h
  · have h := h.2 q3
    refine g_iconst (v := 1) hX d_M_owed_8 (by decide) ?_
    refine g_goto (tgt := 13) hX d_M_owed_9 (by decide) ?_
    refine g_sub [0, 1] rfl ?_
    exact b_M_owed_13 hX  _ _ _ h

def wp_M_state_18 (Γ : Ev)  (post : Int32 → St → Prop) (thr : String → St → Prop) (x1 : Int32) (s0 : Int32) (σ : St) : Prop := (((St.I (St.sI (σ) 20 0 s0) 20 0) ≤ 0 → (vp_in x1 40 ∧ post (St.I (St.sI (σ) 20 0 s0) 28 (x1).toNatClampNeg) (St.sI (σ) 20 0 s0))) ∧ (¬ (St.I (St.sI (σ) 20 0 s0) 20 0) ≤ 0 → post (0 : Int32) (St.sI (σ) 20 0 s0)))
def wp_M_state_13 (Γ : Ev)  (post : Int32 → St → Prop) (thr : String → St → Prop) (x1 : Int32) (σ : St) : Prop := wp_M_state_18 Γ  post thr (x1) ((1 : Int32)) (σ)
def wp_M_state (Γ : Ev) (x1 : Int32) (σ : St) (post : Int32 → St → Prop) (thr : String → St → Prop) : Prop := ((x1 < 0 → wp_M_state_13 Γ  post thr (x1) (σ)) ∧ (¬ x1 < 0 → ((x1 < (St.I (σ) 20 2) → wp_M_state_18 Γ  post thr (x1) ((0 : Int32)) (σ)) ∧ (¬ x1 < (St.I (σ) 20 2) → wp_M_state_13 Γ  post thr (x1) (σ)))))
abbrev rm_M_state : Room := { frames := 0, cells := 0, slots := 0, locals := 0 }
set_option maxRecDepth 100000 in
set_option maxHeartbeats 4000000 in
theorem b_M_state_18 {p : Program} {l : Launch} {e : Env} {s : State} {m : MethodId} {args : Array Value} {below : List Frame} {meth : Method} {c : Code} {D : va_G} {AC : Nat → ClassId} {lo : Nat} {Γ : Ev} {post : Int32 → St → Prop} {thr : String → St → Prop} (hX : Cx p s m args meth c y_M_state b_M_state 2 (some .int) [] D AC lo)   (x1 : Int32) (s0 : Int32) (σ : St) (h : wp_M_state_18 Γ  post thr x1 s0 σ) : G p l e rm_M_state s m args below meth c 2 D lo (pI AC Γ post) (tX AC Γ thr) (wσ AC Γ (σ)) 0 0 18 [(0, .ref (Γ.ad 324)), (1, .int (x1))] [.int (s0), .ref (Γ.ad 324)] := by
  unfold wp_M_state_18 at h
  refine g_putf (i := 324) (kf := 0) (ty := .int) hX (lt_c (by decide)) rfl (lay_MO (AC := AC) (Γ := Γ)) rfl in_M ty_M nm_M (by decide) t_805 (Or.inl rfl) rfl (by decide +kernel) rfl rfl (by show _ < List.length _; simp) d_M_state_18 (wσ_mthrown _) ?_
  refine g_aload_n hX d_M_state_21 rfl 0 rfl ?_
  refine g_getf (i := 324) (kf := 0) hX (lt_c (by decide)) rfl (lay_MO (AC := AC) (Γ := Γ)) rfl in_M (by decide) t_805 (Or.inl rfl) rfl d_M_state_22 ?_
  refine g_if_le (tgt := 32) hX d_M_state_25 (by decide) (fun q2 => ?_) (fun q2 => ?_)
  · have h := h.1 q2
    refine g_aload_n hX d_M_state_32 rfl 0 rfl ?_
    refine g_getf (i := 324) (kf := 10) hX (lt_c (by decide)) rfl (lay_MO (AC := AC) (Γ := Γ)) rfl in_M (by decide) t_815 (Or.inl rfl) rfl d_M_state_33 ?_
    refine g_iload_n hX d_M_state_36 rfl 1 rfl ?_
    obtain ⟨q3, h⟩ := h
    refine g_iald (i := 332) hX (lt_c (by decide)) rfl (lay_m7 (AC := AC) (Γ := Γ)) q3 d_M_state_37 ?_
    exact g_iret hX rfl d_M_state_38 ⟨_, _, rfl, rfl, h⟩
  · have h := h.2 q2
    refine g_iconst (v := 0) hX d_M_state_28 (by decide) ?_
    refine g_goto (tgt := 38) hX d_M_state_29 (by decide) ?_
    exact g_iret hX rfl d_M_state_38 ⟨_, _, rfl, rfl, h⟩
set_option maxRecDepth 100000 in
set_option maxHeartbeats 4000000 in
theorem b_M_state_13 {p : Program} {l : Launch} {e : Env} {s : State} {m : MethodId} {args : Array Value} {below : List Frame} {meth : Method} {c : Code} {D : va_G} {AC : Nat → ClassId} {lo : Nat} {Γ : Ev} {post : Int32 → St → Prop} {thr : String → St → Prop} (hX : Cx p s m args meth c y_M_state b_M_state 2 (some .int) [] D AC lo)   (x1 : Int32) (σ : St) (h : wp_M_state_13 Γ  post thr x1 σ) : G p l e rm_M_state s m args below meth c 2 D lo (pI AC Γ post) (tX AC Γ thr) (wσ AC Γ (σ)) 0 0 13 [(0, .ref (Γ.ad 324)), (1, .int (x1))] [.ref (Γ.ad 324)] := by
  unfold wp_M_state_13 at h
  refine g_iconst (v := 1) hX d_M_state_13 (by decide) ?_
  refine g_goto (tgt := 18) hX d_M_state_14 (by decide) ?_
  refine g_sub [0, 1] rfl ?_
  exact b_M_state_18 hX  _ _ _ h
set_option maxRecDepth 100000 in
set_option maxHeartbeats 4000000 in
theorem c_M_state {l : Launch} {D : va_G} {AC : Nat → ClassId} {lo : Nat} {Γ : Ev} {x1 : Int32} {σ : St} {post : Int32 → St → Prop} {thr : String → St → Prop} (h : wp_M_state Γ x1 σ post thr) : Ct l y_M_state hd_M_state rm_M_state D AC lo [.ref (Γ.ad 324), .int (x1)] (wσ AC Γ σ) (pI AC Γ post) (tX AC Γ thr) := by
  refine Ct.of (by decide) (Nat.le_of_ble_eq_true rfl) ?_
  intro p e s m args below meth c hadm hX
  unfold wp_M_state at h
  show G p l e rm_M_state s m args below meth c 2 D lo (pI AC Γ post) (tX AC Γ thr) (wσ AC Γ (σ)) 0 0 0 [(0, .ref (Γ.ad 324)), (1, .int (x1))] []
  refine g_aload_n hX d_M_state_0 rfl 0 rfl ?_
  refine g_iload_n hX d_M_state_1 rfl 1 rfl ?_
  refine g_if_lt (tgt := 13) hX d_M_state_2 (by decide) (fun q1 => ?_) (fun q1 => ?_)
  · have h := h.1 q1
    refine g_sub [0, 1] rfl ?_
    exact b_M_state_13 hX  _ _ h
  · have h := h.2 q1
    refine g_iload_n hX d_M_state_5 rfl 1 rfl ?_
    refine g_aload_n hX d_M_state_6 rfl 0 rfl ?_
    refine g_getf (i := 324) (kf := 2) hX (lt_c (by decide)) rfl (lay_MO (AC := AC) (Γ := Γ)) rfl in_M (by decide) t_807 (Or.inl rfl) rfl d_M_state_7 ?_
    refine g_icmp_lt (tgt := 17) hX d_M_state_10 (by decide) (fun q4 => ?_) (fun q4 => ?_)
    · have h := h.1 q4
      refine g_iconst (v := 0) hX d_M_state_17 (by decide) ?_
      refine g_sub [0, 1] rfl ?_
      exact b_M_state_18 hX  _ _ _ h
    · have h := h.2 q4
      refine g_sub [0, 1] rfl ?_
      exact b_M_state_13 hX  _ _ h
