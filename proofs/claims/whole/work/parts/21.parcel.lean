def wp_Ar_fill_6 (Γ : Ev)  (post : St → Prop) (thr : String → St → Prop) : Nat → Nat → Int64 → Int32 → Int32 → St → Prop
  | 0 => fun _ _ _ _ _ => False
  | fuel + 1 => fun px0 x1 x3 x4 σ => (px0 < 80 ∧ ((x4 ≤ x3 → post (σ)) ∧ (¬ x4 ≤ x3 → (vp_in x3 8 ∧ wp_Ar_fill_6 Γ  post thr fuel px0 (x1) ((x3 + 1)) (x4) (St.sL (σ) (100 + px0) (x3).toNatClampNeg x1)))))
def wp_Ar_fill (Γ : Ev) (p0 : Nat) (x1 : Int64) (σ : St) (post : St → Prop) (thr : String → St → Prop) : Prop := (p0 < 80 ∧ (∃ f5, wp_Ar_fill_6 Γ  post thr f5 p0 (x1) ((0 : Int32)) ((8 : Int32)) (σ)))
abbrev rm_Ar_fill : Room := { frames := 0, cells := 0, slots := 0, locals := 0 }
set_option maxRecDepth 100000 in
set_option maxHeartbeats 4000000 in
theorem b_Ar_fill_6 {p : Program} {l : Launch} {e : Env} {s : State} {m : MethodId} {args : Array Value} {below : List Frame} {meth : Method} {c : Code} {D : va_G} {AC : Nat → ClassId} {lo : Nat} {Γ : Ev} {post : St → Prop} {thr : String → St → Prop} (hX : Cx p s m args meth c y_Ar_fill b_Ar_fill 5 none [] D AC lo)   : ∀ (fuel : Nat) (px0 : Nat) (x1 : Int64) (x3 : Int32) (x4 : Int32) (σ : St), wp_Ar_fill_6 Γ  post thr fuel px0 x1 x3 x4 σ → G p l e rm_Ar_fill s m args below meth c 5 D lo (pV AC Γ post) (tX AC Γ thr) (wσ AC Γ (σ)) 0 0 6 [(0, .ref (Γ.ad (5 + 4 * px0))), (1, .long (x1)), (3, .int (x3)), (4, .int (x4))] [] := by
  intro fuel
  induction fuel with
  | zero => intro px0 x1 x3 x4 σ h; exact False.elim h
  | succ fuel ih =>
    intro px0 x1 x3 x4 σ h
    simp only [wp_Ar_fill_6] at h
    obtain ⟨q2, h⟩ := h
    refine g_iload_n hX d_Ar_fill_6 rfl 2 rfl ?_
    refine g_iload hX d_Ar_fill_7 3 rfl ?_
    refine g_icmp_ge (tgt := 22) hX d_Ar_fill_9 (by decide) (fun q3 => ?_) (fun q3 => ?_)
    · have h := h.1 q3
      exact g_vret hX rfl d_Ar_fill_22 ⟨_, rfl, rfl, h⟩
    · have h := h.2 q3
      refine g_aload_n hX d_Ar_fill_12 rfl 0 rfl ?_
      refine g_iload_n hX d_Ar_fill_13 rfl 2 rfl ?_
      refine g_lload_n hX d_Ar_fill_14 rfl 1 rfl ?_
      obtain ⟨q4, h⟩ := h
      refine g_last (i := (5 + 4 * px0)) hX (lt_sh q2) rfl (lay_sh q2) q4 d_Ar_fill_15 (wσ_sh q2 (vp_updL (St.L (σ) (100 + px0)) (x3).toNatClampNeg x1)) ?_
      refine g_iinc (v := x3 + 1) hX d_Ar_fill_16 2 rfl (congrArg (x3 + ·) (by decide)) (by decide) rfl ?_
      refine g_goto (tgt := 6) hX d_Ar_fill_19 (by decide) ?_
      refine g_sub [1, 2, 0, 3] rfl ?_
      exact ih px0 (x1) ((x3 + 1)) (x4) (St.sL (σ) (100 + px0) (x3).toNatClampNeg x1) h
set_option maxRecDepth 100000 in
set_option maxHeartbeats 4000000 in
theorem c_Ar_fill {l : Launch} {D : va_G} {AC : Nat → ClassId} {lo : Nat} {Γ : Ev} {p0 : Nat} {x1 : Int64} {σ : St} {post : St → Prop} {thr : String → St → Prop} (h : wp_Ar_fill Γ p0 x1 σ post thr) : Ct l y_Ar_fill hd_Ar_fill rm_Ar_fill D AC lo [.ref (Γ.ad (5 + 4 * p0)), .long (x1)] (wσ AC Γ σ) (pV AC Γ post) (tX AC Γ thr) := by
  refine Ct.of (by decide) (Nat.le_of_ble_eq_true rfl) ?_
  intro p e s m args below meth c hadm hX
  unfold wp_Ar_fill at h
  obtain ⟨q1, h⟩ := h
  show G p l e rm_Ar_fill s m args below meth c 5 D lo (pV AC Γ post) (tX AC Γ thr) (wσ AC Γ (σ)) 0 0 0 [(0, .ref (Γ.ad (5 + 4 * p0))), (1, .long (x1))] []
  refine g_iconst (v := 0) hX d_Ar_fill_0 (by decide) ?_
  refine g_istore_n hX d_Ar_fill_1 rfl (by decide) rfl ?_
  refine g_aload_n hX d_Ar_fill_2 rfl 1 rfl ?_
  refine g_alen (i := (5 + 4 * p0)) (v := 8) 1 hX (lt_sh q1) rfl (lay_sh q1) rfl rfl d_Ar_fill_3 ?_
  refine g_istore hX d_Ar_fill_4 (by decide) rfl ?_
  refine g_sub [2, 3, 1, 0] rfl ?_
  obtain ⟨f5, h⟩ := h
  exact b_Ar_fill_6 hX  f5 _ _ _ _ _ h

def wp_P_unmake (Γ : Ev) (p0 : Nat) (σ : St) (post : St → Prop) (thr : String → St → Prop) : Prop := (p0 < 80 ∧ post (St.sI (St.sI (St.sI (σ) 1 p0 (0 : Int32)) 4 p0 (-1 : Int32)) 5 p0 (-1 : Int32)))
abbrev rm_P_unmake : Room := { frames := 0, cells := 0, slots := 0, locals := 0 }
set_option maxRecDepth 100000 in
set_option maxHeartbeats 4000000 in
theorem c_P_unmake {l : Launch} {D : va_G} {AC : Nat → ClassId} {lo : Nat} {Γ : Ev} {p0 : Nat} {σ : St} {post : St → Prop} {thr : String → St → Prop} (h : wp_P_unmake Γ p0 σ post thr) : Ct l y_P_unmake hd_P_unmake rm_P_unmake D AC lo [.ref (Γ.ad (4 + 4 * p0))] (wσ AC Γ σ) (pV AC Γ post) (tX AC Γ thr) := by
  refine Ct.of (by decide) (Nat.le_of_ble_eq_true rfl) ?_
  intro p e s m args below meth c hadm hX
  unfold wp_P_unmake at h
  obtain ⟨q1, h⟩ := h
  show G p l e rm_P_unmake s m args below meth c 1 D lo (pV AC Γ post) (tX AC Γ thr) (wσ AC Γ (σ)) 0 0 0 [(0, .ref (Γ.ad (4 + 4 * p0)))] []
  refine g_aload_n hX d_P_unmake_0 rfl 0 rfl ?_
  refine g_iconst (v := 0) hX d_P_unmake_1 (by decide) ?_
  refine g_putf (i := (4 + 4 * p0)) (kf := 0) (ty := .boolean) hX (lt_P q1) rfl (lay_p q1) rfl in_P ty_P nm_P (by decide) t_40 (Or.inl rfl) rfl (by decide +kernel) rfl rfl (by show _ < List.length _; simp) d_P_unmake_2 (wσ_lives q1 _) ?_
  refine g_aload_n hX d_P_unmake_5 rfl 0 rfl ?_
  refine g_iconst (v := -1) hX d_P_unmake_6 (by decide) ?_
  refine g_putf (i := (4 + 4 * p0)) (kf := 7) (ty := .int) hX (lt_P q1) rfl (lay_p q1) rfl in_P ty_P nm_P (by decide) t_70 (Or.inl rfl) rfl (by decide +kernel) rfl rfl (by show _ < List.length _; simp) d_P_unmake_7 (wσ_o1 q1 _) ?_
  refine g_aload_n hX d_P_unmake_10 rfl 0 rfl ?_
  refine g_iconst (v := -1) hX d_P_unmake_11 (by decide) ?_
  refine g_putf (i := (4 + 4 * p0)) (kf := 8) (ty := .int) hX (lt_P q1) rfl (lay_p q1) rfl in_P ty_P nm_P (by decide) t_74 (Or.inl rfl) rfl (by decide +kernel) rfl rfl (by show _ < List.length _; simp) d_P_unmake_12 (wσ_o2 q1 _) ?_
  exact g_vret hX rfl d_P_unmake_15 ⟨_, rfl, rfl, h⟩

def wp_P_makeFor (Γ : Ev) (p0 : Nat) (x1 : Int32) (x2 : Int64) (σ : St) (post : St → Prop) (thr : String → St → Prop) : Prop := (p0 < 80 ∧ wp_Ar_fill Γ p0 ((0 : Int64)) (St.sL (St.sI (σ) 1 p0 (1 : Int32)) 1 p0 x2) (fun σ3 => (vp_in x1 8 ∧ post (St.sI (St.sI (St.sL (σ3) (100 + p0) (x1).toNatClampNeg (4294967297 : Int64)) 2 p0 (0 : Int32)) 3 p0 (0 : Int32)))) thr)
abbrev rm_P_makeFor : Room := { frames := 1, cells := 0, slots := 0, locals := 24 }
set_option maxRecDepth 100000 in
set_option maxHeartbeats 4000000 in
theorem c_P_makeFor {l : Launch} {D : va_G} {AC : Nat → ClassId} {lo : Nat} {Γ : Ev} {p0 : Nat} {x1 : Int32} {x2 : Int64} {σ : St} {post : St → Prop} {thr : String → St → Prop} (h : wp_P_makeFor Γ p0 x1 x2 σ post thr) : Ct l y_P_makeFor hd_P_makeFor rm_P_makeFor D AC lo [.ref (Γ.ad (4 + 4 * p0)), .int (x1), .long (x2)] (wσ AC Γ σ) (pV AC Γ post) (tX AC Γ thr) := by
  refine Ct.of (by decide) (Nat.le_of_ble_eq_true rfl) ?_
  intro p e s m args below meth c hadm hX
  unfold wp_P_makeFor at h
  obtain ⟨q1, h⟩ := h
  show G p l e rm_P_makeFor s m args below meth c 4 D lo (pV AC Γ post) (tX AC Γ thr) (wσ AC Γ (σ)) 0 0 0 [(0, .ref (Γ.ad (4 + 4 * p0))), (1, .int (x1)), (2, .long (x2))] []
  refine g_aload_n hX d_P_makeFor_0 rfl 0 rfl ?_
  refine g_iconst (v := 1) hX d_P_makeFor_1 (by decide) ?_
  refine g_putf (i := (4 + 4 * p0)) (kf := 0) (ty := .boolean) hX (lt_P q1) rfl (lay_p q1) rfl in_P ty_P nm_P (by decide) t_40 (Or.inl rfl) rfl (by decide +kernel) rfl rfl (by show _ < List.length _; simp) d_P_makeFor_2 (wσ_lives q1 _) ?_
  refine g_aload_n hX d_P_makeFor_5 rfl 0 rfl ?_
  refine g_lload_n hX d_P_makeFor_6 rfl 2 rfl ?_
  refine g_putf (i := (4 + 4 * p0)) (kf := 1) (ty := .long) hX (lt_P q1) rfl (lay_p q1) rfl in_P ty_P nm_P (by decide) t_48 (Or.inl rfl) rfl (by decide +kernel) rfl rfl (by show _ < List.length _; simp) d_P_makeFor_7 (wσ_area q1 _) ?_
  refine g_aload_n hX d_P_makeFor_10 rfl 0 rfl ?_
  refine g_getf (i := (4 + 4 * p0)) (kf := 2) hX (lt_P q1) rfl (lay_p q1) rfl in_P (by decide) t_51 (Or.inl rfl) rfl d_P_makeFor_11 ?_
  refine g_lconst (v := 0) hX d_P_makeFor_14 (by decide) ?_
  refine g_callS (k := 0) (n := 0) hX (c_Ar_fill h) hdT_Ar_fill hdO_Ar_fill t_12 t_381 t_382 ⟨⟨by decide, by decide⟩, np_Ar_fill⟩ ⟨Nat.le_of_ble_eq_true rfl, Nat.le_of_ble_eq_true rfl⟩ (Nat.le_of_ble_eq_true rfl) d_P_makeFor_15 rfl ?_ (fun _ _ z => z)
  rintro _ _ ⟨σ3, rfl, rfl, h⟩
  refine g_aload_n hX d_P_makeFor_18 rfl 0 rfl ?_
  refine g_getf (i := (4 + 4 * p0)) (kf := 2) hX (lt_P q1) rfl (lay_p q1) rfl in_P (by decide) t_51 (Or.inl rfl) rfl d_P_makeFor_19 ?_
  refine g_iload_n hX d_P_makeFor_22 rfl 1 rfl ?_
  refine g_ldc2 (v := 4294967297) hX t_384 d_P_makeFor_23 ?_
  obtain ⟨q4, h⟩ := h
  refine g_last (i := (5 + 4 * p0)) hX (lt_sh q1) rfl (lay_sh q1) q4 d_P_makeFor_26 (wσ_sh q1 (vp_updL (St.L (σ3) (100 + p0)) (x1).toNatClampNeg (4294967297 : Int64))) ?_
  refine g_aload_n hX d_P_makeFor_27 rfl 0 rfl ?_
  refine g_iconst (v := 0) hX d_P_makeFor_28 (by decide) ?_
  refine g_putf (i := (4 + 4 * p0)) (kf := 3) (ty := .int) hX (lt_P q1) rfl (lay_p q1) rfl in_P ty_P nm_P (by decide) t_57 (Or.inl rfl) rfl (by decide +kernel) rfl rfl (by show _ < List.length _; simp) d_P_makeFor_29 (wσ_mort q1 _) ?_
  refine g_aload_n hX d_P_makeFor_32 rfl 0 rfl ?_
  refine g_iconst (v := 0) hX d_P_makeFor_33 (by decide) ?_
  refine g_putf (i := (4 + 4 * p0)) (kf := 6) (ty := .int) hX (lt_P q1) rfl (lay_p q1) rfl in_P ty_P nm_P (by decide) t_68 (Or.inl rfl) rfl (by decide +kernel) rfl rfl (by show _ < List.length _; simp) d_P_makeFor_34 (wσ_caut q1 _) ?_
  exact g_vret hX rfl d_P_makeFor_37 ⟨_, rfl, rfl, h⟩

def wp_P_makeFrom (Γ : Ev) (p0 : Nat) (p1 : Nat) (x2 : Int64) (σ : St) (post : St → Prop) (thr : String → St → Prop) : Prop := (p0 < 80 ∧ (p1 < 80 ∧ (¬ (0 : Int32) < 0 ∧ ¬ (0 : Int32) < 0 ∧ ¬ (8 : Int32) < 0 ∧ ((0 : Int32)).toNatClampNeg + ((8 : Int32)).toNatClampNeg ≤ 8 ∧ ((0 : Int32)).toNatClampNeg + ((8 : Int32)).toNatClampNeg ≤ 8 ∧ (¬ (0 : Int32) < 0 ∧ ¬ (0 : Int32) < 0 ∧ ¬ (4 : Int32) < 0 ∧ ((0 : Int32)).toNatClampNeg + ((4 : Int32)).toNatClampNeg ≤ 4 ∧ ((0 : Int32)).toNatClampNeg + ((4 : Int32)).toNatClampNeg ≤ 4 ∧ (¬ (0 : Int32) < 0 ∧ ¬ (0 : Int32) < 0 ∧ ¬ (4 : Int32) < 0 ∧ ((0 : Int32)).toNatClampNeg + ((4 : Int32)).toNatClampNeg ≤ 4 ∧ ((0 : Int32)).toNatClampNeg + ((4 : Int32)).toNatClampNeg ≤ 4 ∧ post (St.sI (St.aI (St.aI (St.sI (St.aL (St.sL (St.sI (σ) 1 p0 (1 : Int32)) 1 p0 x2) (100 + p0) (va_cpy (St.L (St.sL (St.sI (σ) 1 p0 (1 : Int32)) 1 p0 x2) (100 + p1)) (St.L (St.sL (St.sI (σ) 1 p0 (1 : Int32)) 1 p0 x2) (100 + p0)) ((0 : Int32)).toNatClampNeg ((0 : Int32)).toNatClampNeg ((8 : Int32)).toNatClampNeg)) 2 p0 (St.I (St.aL (St.sL (St.sI (σ) 1 p0 (1 : Int32)) 1 p0 x2) (100 + p0) (va_cpy (St.L (St.sL (St.sI (σ) 1 p0 (1 : Int32)) 1 p0 x2) (100 + p1)) (St.L (St.sL (St.sI (σ) 1 p0 (1 : Int32)) 1 p0 x2) (100 + p0)) ((0 : Int32)).toNatClampNeg ((0 : Int32)).toNatClampNeg ((8 : Int32)).toNatClampNeg)) 2 p1)) (100 + p0) (va_cpy (St.I (St.sI (St.aL (St.sL (St.sI (σ) 1 p0 (1 : Int32)) 1 p0 x2) (100 + p0) (va_cpy (St.L (St.sL (St.sI (σ) 1 p0 (1 : Int32)) 1 p0 x2) (100 + p1)) (St.L (St.sL (St.sI (σ) 1 p0 (1 : Int32)) 1 p0 x2) (100 + p0)) ((0 : Int32)).toNatClampNeg ((0 : Int32)).toNatClampNeg ((8 : Int32)).toNatClampNeg)) 2 p0 (St.I (St.aL (St.sL (St.sI (σ) 1 p0 (1 : Int32)) 1 p0 x2) (100 + p0) (va_cpy (St.L (St.sL (St.sI (σ) 1 p0 (1 : Int32)) 1 p0 x2) (100 + p1)) (St.L (St.sL (St.sI (σ) 1 p0 (1 : Int32)) 1 p0 x2) (100 + p0)) ((0 : Int32)).toNatClampNeg ((0 : Int32)).toNatClampNeg ((8 : Int32)).toNatClampNeg)) 2 p1)) (100 + p1)) (St.I (St.sI (St.aL (St.sL (St.sI (σ) 1 p0 (1 : Int32)) 1 p0 x2) (100 + p0) (va_cpy (St.L (St.sL (St.sI (σ) 1 p0 (1 : Int32)) 1 p0 x2) (100 + p1)) (St.L (St.sL (St.sI (σ) 1 p0 (1 : Int32)) 1 p0 x2) (100 + p0)) ((0 : Int32)).toNatClampNeg ((0 : Int32)).toNatClampNeg ((8 : Int32)).toNatClampNeg)) 2 p0 (St.I (St.aL (St.sL (St.sI (σ) 1 p0 (1 : Int32)) 1 p0 x2) (100 + p0) (va_cpy (St.L (St.sL (St.sI (σ) 1 p0 (1 : Int32)) 1 p0 x2) (100 + p1)) (St.L (St.sL (St.sI (σ) 1 p0 (1 : Int32)) 1 p0 x2) (100 + p0)) ((0 : Int32)).toNatClampNeg ((0 : Int32)).toNatClampNeg ((8 : Int32)).toNatClampNeg)) 2 p1)) (100 + p0)) ((0 : Int32)).toNatClampNeg ((0 : Int32)).toNatClampNeg ((4 : Int32)).toNatClampNeg)) (200 + p0) (va_cpy (St.I (St.aI (St.sI (St.aL (St.sL (St.sI (σ) 1 p0 (1 : Int32)) 1 p0 x2) (100 + p0) (va_cpy (St.L (St.sL (St.sI (σ) 1 p0 (1 : Int32)) 1 p0 x2) (100 + p1)) (St.L (St.sL (St.sI (σ) 1 p0 (1 : Int32)) 1 p0 x2) (100 + p0)) ((0 : Int32)).toNatClampNeg ((0 : Int32)).toNatClampNeg ((8 : Int32)).toNatClampNeg)) 2 p0 (St.I (St.aL (St.sL (St.sI (σ) 1 p0 (1 : Int32)) 1 p0 x2) (100 + p0) (va_cpy (St.L (St.sL (St.sI (σ) 1 p0 (1 : Int32)) 1 p0 x2) (100 + p1)) (St.L (St.sL (St.sI (σ) 1 p0 (1 : Int32)) 1 p0 x2) (100 + p0)) ((0 : Int32)).toNatClampNeg ((0 : Int32)).toNatClampNeg ((8 : Int32)).toNatClampNeg)) 2 p1)) (100 + p0) (va_cpy (St.I (St.sI (St.aL (St.sL (St.sI (σ) 1 p0 (1 : Int32)) 1 p0 x2) (100 + p0) (va_cpy (St.L (St.sL (St.sI (σ) 1 p0 (1 : Int32)) 1 p0 x2) (100 + p1)) (St.L (St.sL (St.sI (σ) 1 p0 (1 : Int32)) 1 p0 x2) (100 + p0)) ((0 : Int32)).toNatClampNeg ((0 : Int32)).toNatClampNeg ((8 : Int32)).toNatClampNeg)) 2 p0 (St.I (St.aL (St.sL (St.sI (σ) 1 p0 (1 : Int32)) 1 p0 x2) (100 + p0) (va_cpy (St.L (St.sL (St.sI (σ) 1 p0 (1 : Int32)) 1 p0 x2) (100 + p1)) (St.L (St.sL (St.sI (σ) 1 p0 (1 : Int32)) 1 p0 x2) (100 + p0)) ((0 : Int32)).toNatClampNeg ((0 : Int32)).toNatClampNeg ((8 : Int32)).toNatClampNeg)) 2 p1)) (100 + p1)) (St.I (St.sI (St.aL (St.sL (St.sI (σ) 1 p0 (1 : Int32)) 1 p0 x2) (100 + p0) (va_cpy (St.L (St.sL (St.sI (σ) 1 p0 (1 : Int32)) 1 p0 x2) (100 + p1)) (St.L (St.sL (St.sI (σ) 1 p0 (1 : Int32)) 1 p0 x2) (100 + p0)) ((0 : Int32)).toNatClampNeg ((0 : Int32)).toNatClampNeg ((8 : Int32)).toNatClampNeg)) 2 p0 (St.I (St.aL (St.sL (St.sI (σ) 1 p0 (1 : Int32)) 1 p0 x2) (100 + p0) (va_cpy (St.L (St.sL (St.sI (σ) 1 p0 (1 : Int32)) 1 p0 x2) (100 + p1)) (St.L (St.sL (St.sI (σ) 1 p0 (1 : Int32)) 1 p0 x2) (100 + p0)) ((0 : Int32)).toNatClampNeg ((0 : Int32)).toNatClampNeg ((8 : Int32)).toNatClampNeg)) 2 p1)) (100 + p0)) ((0 : Int32)).toNatClampNeg ((0 : Int32)).toNatClampNeg ((4 : Int32)).toNatClampNeg)) (200 + p1)) (St.I (St.aI (St.sI (St.aL (St.sL (St.sI (σ) 1 p0 (1 : Int32)) 1 p0 x2) (100 + p0) (va_cpy (St.L (St.sL (St.sI (σ) 1 p0 (1 : Int32)) 1 p0 x2) (100 + p1)) (St.L (St.sL (St.sI (σ) 1 p0 (1 : Int32)) 1 p0 x2) (100 + p0)) ((0 : Int32)).toNatClampNeg ((0 : Int32)).toNatClampNeg ((8 : Int32)).toNatClampNeg)) 2 p0 (St.I (St.aL (St.sL (St.sI (σ) 1 p0 (1 : Int32)) 1 p0 x2) (100 + p0) (va_cpy (St.L (St.sL (St.sI (σ) 1 p0 (1 : Int32)) 1 p0 x2) (100 + p1)) (St.L (St.sL (St.sI (σ) 1 p0 (1 : Int32)) 1 p0 x2) (100 + p0)) ((0 : Int32)).toNatClampNeg ((0 : Int32)).toNatClampNeg ((8 : Int32)).toNatClampNeg)) 2 p1)) (100 + p0) (va_cpy (St.I (St.sI (St.aL (St.sL (St.sI (σ) 1 p0 (1 : Int32)) 1 p0 x2) (100 + p0) (va_cpy (St.L (St.sL (St.sI (σ) 1 p0 (1 : Int32)) 1 p0 x2) (100 + p1)) (St.L (St.sL (St.sI (σ) 1 p0 (1 : Int32)) 1 p0 x2) (100 + p0)) ((0 : Int32)).toNatClampNeg ((0 : Int32)).toNatClampNeg ((8 : Int32)).toNatClampNeg)) 2 p0 (St.I (St.aL (St.sL (St.sI (σ) 1 p0 (1 : Int32)) 1 p0 x2) (100 + p0) (va_cpy (St.L (St.sL (St.sI (σ) 1 p0 (1 : Int32)) 1 p0 x2) (100 + p1)) (St.L (St.sL (St.sI (σ) 1 p0 (1 : Int32)) 1 p0 x2) (100 + p0)) ((0 : Int32)).toNatClampNeg ((0 : Int32)).toNatClampNeg ((8 : Int32)).toNatClampNeg)) 2 p1)) (100 + p1)) (St.I (St.sI (St.aL (St.sL (St.sI (σ) 1 p0 (1 : Int32)) 1 p0 x2) (100 + p0) (va_cpy (St.L (St.sL (St.sI (σ) 1 p0 (1 : Int32)) 1 p0 x2) (100 + p1)) (St.L (St.sL (St.sI (σ) 1 p0 (1 : Int32)) 1 p0 x2) (100 + p0)) ((0 : Int32)).toNatClampNeg ((0 : Int32)).toNatClampNeg ((8 : Int32)).toNatClampNeg)) 2 p0 (St.I (St.aL (St.sL (St.sI (σ) 1 p0 (1 : Int32)) 1 p0 x2) (100 + p0) (va_cpy (St.L (St.sL (St.sI (σ) 1 p0 (1 : Int32)) 1 p0 x2) (100 + p1)) (St.L (St.sL (St.sI (σ) 1 p0 (1 : Int32)) 1 p0 x2) (100 + p0)) ((0 : Int32)).toNatClampNeg ((0 : Int32)).toNatClampNeg ((8 : Int32)).toNatClampNeg)) 2 p1)) (100 + p0)) ((0 : Int32)).toNatClampNeg ((0 : Int32)).toNatClampNeg ((4 : Int32)).toNatClampNeg)) (200 + p0)) ((0 : Int32)).toNatClampNeg ((0 : Int32)).toNatClampNeg ((4 : Int32)).toNatClampNeg)) 3 p0 (0 : Int32)))))))
abbrev rm_P_makeFrom : Room := { frames := 1, cells := 0, slots := 0, locals := 60 }
set_option maxRecDepth 100000 in
set_option maxHeartbeats 4000000 in
theorem c_P_makeFrom {l : Launch} {D : va_G} {AC : Nat → ClassId} {lo : Nat} {Γ : Ev} {p0 : Nat} {p1 : Nat} {x2 : Int64} {σ : St} {post : St → Prop} {thr : String → St → Prop} (h : wp_P_makeFrom Γ p0 p1 x2 σ post thr) : Ct l y_P_makeFrom hd_P_makeFrom rm_P_makeFrom D AC lo [.ref (Γ.ad (4 + 4 * p0)), .ref (Γ.ad (4 + 4 * p1)), .long (x2)] (wσ AC Γ σ) (pV AC Γ post) (tX AC Γ thr) := by
  refine Ct.of (by decide) (Nat.le_of_ble_eq_true rfl) ?_
  intro p e s m args below meth c hadm hX
  unfold wp_P_makeFrom at h
  obtain ⟨q1, q2, h⟩ := h
  show G p l e rm_P_makeFrom s m args below meth c 4 D lo (pV AC Γ post) (tX AC Γ thr) (wσ AC Γ (σ)) 0 0 0 [(0, .ref (Γ.ad (4 + 4 * p0))), (1, .ref (Γ.ad (4 + 4 * p1))), (2, .long (x2))] []
  refine g_aload_n hX d_P_makeFrom_0 rfl 0 rfl ?_
  refine g_iconst (v := 1) hX d_P_makeFrom_1 (by decide) ?_
  refine g_putf (i := (4 + 4 * p0)) (kf := 0) (ty := .boolean) hX (lt_P q1) rfl (lay_p q1) rfl in_P ty_P nm_P (by decide) t_40 (Or.inl rfl) rfl (by decide +kernel) rfl rfl (by show _ < List.length _; simp) d_P_makeFrom_2 (wσ_lives q1 _) ?_
  refine g_aload_n hX d_P_makeFrom_5 rfl 0 rfl ?_
  refine g_lload_n hX d_P_makeFrom_6 rfl 2 rfl ?_
  refine g_putf (i := (4 + 4 * p0)) (kf := 1) (ty := .long) hX (lt_P q1) rfl (lay_p q1) rfl in_P ty_P nm_P (by decide) t_48 (Or.inl rfl) rfl (by decide +kernel) rfl rfl (by show _ < List.length _; simp) d_P_makeFrom_7 (wσ_area q1 _) ?_
  refine g_aload_n hX d_P_makeFrom_10 rfl 1 rfl ?_
  refine g_getf (i := (4 + 4 * p1)) (kf := 2) hX (lt_P q2) rfl (lay_p q2) rfl in_P (by decide) t_51 (Or.inl rfl) rfl d_P_makeFrom_11 ?_
  refine g_iconst (v := 0) hX d_P_makeFrom_14 (by decide) ?_
  refine g_aload_n hX d_P_makeFrom_15 rfl 0 rfl ?_
  refine g_getf (i := (4 + 4 * p0)) (kf := 2) hX (lt_P q1) rfl (lay_p q1) rfl in_P (by decide) t_51 (Or.inl rfl) rfl d_P_makeFrom_16 ?_
  refine g_iconst (v := 0) hX d_P_makeFrom_19 (by decide) ?_
  refine g_bipush (v := 8) hX d_P_makeFrom_20 (by decide) ?_
  obtain ⟨q3, q4, q5, q6, q7, h⟩ := h
  refine g_copyL (i := (5 + 4 * p1)) (j := (5 + 4 * p0)) hX ⟨t_395, t_397, t_396, t_13⟩ (lt_sh q2) rfl (lay_sh q2) (lt_sh q1) rfl (lay_sh q1) q3 q4 q5 q6 q7 d_P_makeFrom_22 (Nat.le_of_ble_eq_true rfl) (Nat.le_of_ble_eq_true rfl) (wσ_sh q1 _) ?_
  refine g_aload_n hX d_P_makeFrom_25 rfl 0 rfl ?_
  refine g_aload_n hX d_P_makeFrom_26 rfl 1 rfl ?_
  refine g_getf (i := (4 + 4 * p1)) (kf := 3) hX (lt_P q2) rfl (lay_p q2) rfl in_P (by decide) t_57 (Or.inl rfl) rfl d_P_makeFrom_27 ?_
  refine g_putf (i := (4 + 4 * p0)) (kf := 3) (ty := .int) hX (lt_P q1) rfl (lay_p q1) rfl in_P ty_P nm_P (by decide) t_57 (Or.inl rfl) rfl (by decide +kernel) rfl rfl (by show _ < List.length _; simp) d_P_makeFrom_30 (wσ_mort q1 _) ?_
  refine g_aload_n hX d_P_makeFrom_33 rfl 1 rfl ?_
  refine g_getf (i := (4 + 4 * p1)) (kf := 4) hX (lt_P q2) rfl (lay_p q2) rfl in_P (by decide) t_59 (Or.inl rfl) rfl d_P_makeFrom_34 ?_
  refine g_iconst (v := 0) hX d_P_makeFrom_37 (by decide) ?_
  refine g_aload_n hX d_P_makeFrom_38 rfl 0 rfl ?_
  refine g_getf (i := (4 + 4 * p0)) (kf := 4) hX (lt_P q1) rfl (lay_p q1) rfl in_P (by decide) t_59 (Or.inl rfl) rfl d_P_makeFrom_39 ?_
  refine g_iconst (v := 0) hX d_P_makeFrom_42 (by decide) ?_
  refine g_iconst (v := 4) hX d_P_makeFrom_43 (by decide) ?_
  obtain ⟨q8, q9, q10, q11, q12, h⟩ := h
  refine g_copyI (i := (6 + 4 * p1)) (j := (6 + 4 * p0)) hX ⟨t_395, t_397, t_396, t_13⟩ (lt_cr q2) rfl (lay_cr q2) (lt_cr q1) rfl (lay_cr q1) q8 q9 q10 q11 q12 d_P_makeFrom_44 (Nat.le_of_ble_eq_true rfl) (Nat.le_of_ble_eq_true rfl) (wσ_cr q1 _) ?_
  refine g_aload_n hX d_P_makeFrom_47 rfl 1 rfl ?_
  refine g_getf (i := (4 + 4 * p1)) (kf := 5) hX (lt_P q2) rfl (lay_p q2) rfl in_P (by decide) t_62 (Or.inl rfl) rfl d_P_makeFrom_48 ?_
  refine g_iconst (v := 0) hX d_P_makeFrom_51 (by decide) ?_
  refine g_aload_n hX d_P_makeFrom_52 rfl 0 rfl ?_
  refine g_getf (i := (4 + 4 * p0)) (kf := 5) hX (lt_P q1) rfl (lay_p q1) rfl in_P (by decide) t_62 (Or.inl rfl) rfl d_P_makeFrom_53 ?_
  refine g_iconst (v := 0) hX d_P_makeFrom_56 (by decide) ?_
  refine g_iconst (v := 4) hX d_P_makeFrom_57 (by decide) ?_
  obtain ⟨q13, q14, q15, q16, q17, h⟩ := h
  refine g_copyI (i := (7 + 4 * p1)) (j := (7 + 4 * p0)) hX ⟨t_395, t_397, t_396, t_13⟩ (lt_am q2) rfl (lay_am q2) (lt_am q1) rfl (lay_am q1) q13 q14 q15 q16 q17 d_P_makeFrom_58 (Nat.le_of_ble_eq_true rfl) (Nat.le_of_ble_eq_true rfl) (wσ_am q1 _) ?_
  refine g_aload_n hX d_P_makeFrom_61 rfl 0 rfl ?_
  refine g_iconst (v := 0) hX d_P_makeFrom_62 (by decide) ?_
  refine g_putf (i := (4 + 4 * p0)) (kf := 6) (ty := .int) hX (lt_P q1) rfl (lay_p q1) rfl in_P ty_P nm_P (by decide) t_68 (Or.inl rfl) rfl (by decide +kernel) rfl rfl (by show _ < List.length _; simp) d_P_makeFrom_63 (wσ_caut q1 _) ?_
  exact g_vret hX rfl d_P_makeFrom_66 ⟨_, rfl, rfl, h⟩

def wp_P_closedness (Γ : Ev) (p0 : Nat) (σ : St) (post : Int32 → St → Prop) (thr : String → St → Prop) : Prop := (p0 < 80 ∧ ((¬ (St.I (σ) 1 p0) = 0 → (((St.I (σ) 3 p0) = 0 → post (0 : Int32) (σ)) ∧ (¬ (St.I (σ) 3 p0) = 0 → post (2 : Int32) (σ)))) ∧ ((St.I (σ) 1 p0) = 0 → post (1 : Int32) (σ))))
abbrev rm_P_closedness : Room := { frames := 0, cells := 0, slots := 0, locals := 0 }
set_option maxRecDepth 100000 in
set_option maxHeartbeats 4000000 in
theorem c_P_closedness {l : Launch} {D : va_G} {AC : Nat → ClassId} {lo : Nat} {Γ : Ev} {p0 : Nat} {σ : St} {post : Int32 → St → Prop} {thr : String → St → Prop} (h : wp_P_closedness Γ p0 σ post thr) : Ct l y_P_closedness hd_P_closedness rm_P_closedness D AC lo [.ref (Γ.ad (4 + 4 * p0))] (wσ AC Γ σ) (pI AC Γ post) (tX AC Γ thr) := by
  refine Ct.of (by decide) (Nat.le_of_ble_eq_true rfl) ?_
  intro p e s m args below meth c hadm hX
  unfold wp_P_closedness at h
  obtain ⟨q1, h⟩ := h
  show G p l e rm_P_closedness s m args below meth c 1 D lo (pI AC Γ post) (tX AC Γ thr) (wσ AC Γ (σ)) 0 0 0 [(0, .ref (Γ.ad (4 + 4 * p0)))] []
  refine g_aload_n hX d_P_closedness_0 rfl 0 rfl ?_
  refine g_getf (i := (4 + 4 * p0)) (kf := 0) hX (lt_P q1) rfl (lay_p q1) rfl in_P (by decide) t_40 (Or.inl rfl) rfl d_P_closedness_1 ?_
  refine g_if_ne (tgt := 9) hX d_P_closedness_4 (by decide) (fun q2 => ?_) (fun q2 => ?_)
  · have h := h.1 q2
    refine g_aload_n hX d_P_closedness_9 rfl 0 rfl ?_
    refine g_getf (i := (4 + 4 * p0)) (kf := 6) hX (lt_P q1) rfl (lay_p q1) rfl in_P (by decide) t_68 (Or.inl rfl) rfl d_P_closedness_10 ?_
    refine g_if_eq (tgt := 20) hX d_P_closedness_13 (by decide) (fun q3 => ?_) (fun q3 => ?_)
    · have h := h.1 q3
      refine g_iconst (v := 0) hX d_P_closedness_20 (by decide) ?_
      exact g_iret hX rfl d_P_closedness_21 ⟨_, _, rfl, rfl, h⟩
    · have h := h.2 q3
      refine g_iconst (v := 2) hX d_P_closedness_16 (by decide) ?_
      refine g_goto (tgt := 21) hX d_P_closedness_17 (by decide) ?_
      exact g_iret hX rfl d_P_closedness_21 ⟨_, _, rfl, rfl, h⟩
  · have h := h.2 q2
    refine g_iconst (v := 1) hX d_P_closedness_7 (by decide) ?_
    exact g_iret hX rfl d_P_closedness_8 ⟨_, _, rfl, rfl, h⟩

def wp_P_hasCautionOf (Γ : Ev) (p0 : Nat) (x1 : Int32) (σ : St) (post : Int32 → St → Prop) (thr : String → St → Prop) : Prop := (p0 < 80 ∧ (((((St.I (σ) 3 p0) >>> (x1 &&& 31)) &&& (1 : Int32)) = 0 → post (0 : Int32) (σ)) ∧ (¬ (((St.I (σ) 3 p0) >>> (x1 &&& 31)) &&& (1 : Int32)) = 0 → post (1 : Int32) (σ))))
abbrev rm_P_hasCautionOf : Room := { frames := 0, cells := 0, slots := 0, locals := 0 }
set_option maxRecDepth 100000 in
set_option maxHeartbeats 4000000 in
theorem c_P_hasCautionOf {l : Launch} {D : va_G} {AC : Nat → ClassId} {lo : Nat} {Γ : Ev} {p0 : Nat} {x1 : Int32} {σ : St} {post : Int32 → St → Prop} {thr : String → St → Prop} (h : wp_P_hasCautionOf Γ p0 x1 σ post thr) : Ct l y_P_hasCautionOf hd_P_hasCautionOf rm_P_hasCautionOf D AC lo [.ref (Γ.ad (4 + 4 * p0)), .int (x1)] (wσ AC Γ σ) (pI AC Γ post) (tX AC Γ thr) := by
  refine Ct.of (by decide) (Nat.le_of_ble_eq_true rfl) ?_
  intro p e s m args below meth c hadm hX
  unfold wp_P_hasCautionOf at h
  obtain ⟨q1, h⟩ := h
  show G p l e rm_P_hasCautionOf s m args below meth c 2 D lo (pI AC Γ post) (tX AC Γ thr) (wσ AC Γ (σ)) 0 0 0 [(0, .ref (Γ.ad (4 + 4 * p0))), (1, .int (x1))] []
  refine g_aload_n hX d_P_hasCautionOf_0 rfl 0 rfl ?_
  refine g_getf (i := (4 + 4 * p0)) (kf := 6) hX (lt_P q1) rfl (lay_p q1) rfl in_P (by decide) t_68 (Or.inl rfl) rfl d_P_hasCautionOf_1 ?_
  refine g_iload_n hX d_P_hasCautionOf_4 rfl 1 rfl ?_
  refine g_ishr hX d_P_hasCautionOf_5 ?_
  refine g_iconst (v := 1) hX d_P_hasCautionOf_6 (by decide) ?_
  refine g_iand hX d_P_hasCautionOf_7 ?_
  refine g_if_eq (tgt := 15) hX d_P_hasCautionOf_8 (by decide) (fun q2 => ?_) (fun q2 => ?_)
  · have h := h.1 q2
    refine g_iconst (v := 0) hX d_P_hasCautionOf_15 (by decide) ?_
    exact g_zret hX rfl d_P_hasCautionOf_16 (by decide) ⟨_, _, rfl, rfl, h⟩
  · have h := h.2 q2
    refine g_iconst (v := 1) hX d_P_hasCautionOf_11 (by decide) ?_
    refine g_goto (tgt := 16) hX d_P_hasCautionOf_12 (by decide) ?_
    exact g_zret hX rfl d_P_hasCautionOf_16 (by decide) ⟨_, _, rfl, rfl, h⟩

def wp_P_addMortgage (Γ : Ev) (p0 : Nat) (x1 : Int32) (x2 : Int32) (x3 : Int32) (σ : St) (post : St → Prop) (thr : String → St → Prop) : Prop := (p0 < 80 ∧ (¬ (x1 - (1 : Int32)) < 0 ∧ ¬ x1 < 0 ∧ ¬ (((St.I (σ) 2 p0) - x1) + (1 : Int32)) < 0 ∧ ((x1 - (1 : Int32))).toNatClampNeg + ((((St.I (σ) 2 p0) - x1) + (1 : Int32))).toNatClampNeg ≤ 4 ∧ (x1).toNatClampNeg + ((((St.I (σ) 2 p0) - x1) + (1 : Int32))).toNatClampNeg ≤ 4 ∧ (¬ (x1 - (1 : Int32)) < 0 ∧ ¬ x1 < 0 ∧ ¬ (((St.I (σ) 2 p0) - x1) + (1 : Int32)) < 0 ∧ ((x1 - (1 : Int32))).toNatClampNeg + ((((St.I (σ) 2 p0) - x1) + (1 : Int32))).toNatClampNeg ≤ 4 ∧ (x1).toNatClampNeg + ((((St.I (σ) 2 p0) - x1) + (1 : Int32))).toNatClampNeg ≤ 4 ∧ (vp_in (x1 - (1 : Int32)) 4 ∧ (vp_in (x1 - (1 : Int32)) 4 ∧ post (St.sI (St.sI (St.sI (St.aI (St.aI (σ) (100 + p0) (va_cpy (St.I (σ) (100 + p0)) (St.I (σ) (100 + p0)) ((x1 - (1 : Int32))).toNatClampNeg (x1).toNatClampNeg ((((St.I (σ) 2 p0) - x1) + (1 : Int32))).toNatClampNeg)) (200 + p0) (va_cpy (St.I (St.aI (σ) (100 + p0) (va_cpy (St.I (σ) (100 + p0)) (St.I (σ) (100 + p0)) ((x1 - (1 : Int32))).toNatClampNeg (x1).toNatClampNeg ((((St.I (σ) 2 p0) - x1) + (1 : Int32))).toNatClampNeg)) (200 + p0)) (St.I (St.aI (σ) (100 + p0) (va_cpy (St.I (σ) (100 + p0)) (St.I (σ) (100 + p0)) ((x1 - (1 : Int32))).toNatClampNeg (x1).toNatClampNeg ((((St.I (σ) 2 p0) - x1) + (1 : Int32))).toNatClampNeg)) (200 + p0)) ((x1 - (1 : Int32))).toNatClampNeg (x1).toNatClampNeg ((((St.I (σ) 2 p0) - x1) + (1 : Int32))).toNatClampNeg)) (100 + p0) ((x1 - (1 : Int32))).toNatClampNeg x2) (200 + p0) ((x1 - (1 : Int32))).toNatClampNeg x3) 2 p0 ((St.I (St.sI (St.sI (St.aI (St.aI (σ) (100 + p0) (va_cpy (St.I (σ) (100 + p0)) (St.I (σ) (100 + p0)) ((x1 - (1 : Int32))).toNatClampNeg (x1).toNatClampNeg ((((St.I (σ) 2 p0) - x1) + (1 : Int32))).toNatClampNeg)) (200 + p0) (va_cpy (St.I (St.aI (σ) (100 + p0) (va_cpy (St.I (σ) (100 + p0)) (St.I (σ) (100 + p0)) ((x1 - (1 : Int32))).toNatClampNeg (x1).toNatClampNeg ((((St.I (σ) 2 p0) - x1) + (1 : Int32))).toNatClampNeg)) (200 + p0)) (St.I (St.aI (σ) (100 + p0) (va_cpy (St.I (σ) (100 + p0)) (St.I (σ) (100 + p0)) ((x1 - (1 : Int32))).toNatClampNeg (x1).toNatClampNeg ((((St.I (σ) 2 p0) - x1) + (1 : Int32))).toNatClampNeg)) (200 + p0)) ((x1 - (1 : Int32))).toNatClampNeg (x1).toNatClampNeg ((((St.I (σ) 2 p0) - x1) + (1 : Int32))).toNatClampNeg)) (100 + p0) ((x1 - (1 : Int32))).toNatClampNeg x2) (200 + p0) ((x1 - (1 : Int32))).toNatClampNeg x3) 2 p0) + (1 : Int32))))))))
abbrev rm_P_addMortgage : Room := { frames := 1, cells := 0, slots := 0, locals := 60 }
set_option maxRecDepth 100000 in
set_option maxHeartbeats 4000000 in
theorem c_P_addMortgage {l : Launch} {D : va_G} {AC : Nat → ClassId} {lo : Nat} {Γ : Ev} {p0 : Nat} {x1 : Int32} {x2 : Int32} {x3 : Int32} {σ : St} {post : St → Prop} {thr : String → St → Prop} (h : wp_P_addMortgage Γ p0 x1 x2 x3 σ post thr) : Ct l y_P_addMortgage hd_P_addMortgage rm_P_addMortgage D AC lo [.ref (Γ.ad (4 + 4 * p0)), .int (x1), .int (x2), .int (x3)] (wσ AC Γ σ) (pV AC Γ post) (tX AC Γ thr) := by
  refine Ct.of (by decide) (Nat.le_of_ble_eq_true rfl) ?_
  intro p e s m args below meth c hadm hX
  unfold wp_P_addMortgage at h
  obtain ⟨q1, h⟩ := h
  show G p l e rm_P_addMortgage s m args below meth c 5 D lo (pV AC Γ post) (tX AC Γ thr) (wσ AC Γ (σ)) 0 0 0 [(0, .ref (Γ.ad (4 + 4 * p0))), (1, .int (x1)), (2, .int (x2)), (3, .int (x3))] []
  refine g_aload_n hX d_P_addMortgage_0 rfl 0 rfl ?_
  refine g_getf (i := (4 + 4 * p0)) (kf := 3) hX (lt_P q1) rfl (lay_p q1) rfl in_P (by decide) t_57 (Or.inl rfl) rfl d_P_addMortgage_1 ?_
  refine g_iload_n hX d_P_addMortgage_4 rfl 1 rfl ?_
  refine g_isub hX d_P_addMortgage_5 ?_
  refine g_iconst (v := 1) hX d_P_addMortgage_6 (by decide) ?_
  refine g_iadd hX d_P_addMortgage_7 ?_
  refine g_istore hX d_P_addMortgage_8 (by decide) rfl ?_
  refine g_aload_n hX d_P_addMortgage_10 rfl 1 rfl ?_
  refine g_getf (i := (4 + 4 * p0)) (kf := 4) hX (lt_P q1) rfl (lay_p q1) rfl in_P (by decide) t_59 (Or.inl rfl) rfl d_P_addMortgage_11 ?_
  refine g_iload_n hX d_P_addMortgage_14 rfl 2 rfl ?_
  refine g_iconst (v := 1) hX d_P_addMortgage_15 (by decide) ?_
  refine g_isub hX d_P_addMortgage_16 ?_
  refine g_aload_n hX d_P_addMortgage_17 rfl 1 rfl ?_
  refine g_getf (i := (4 + 4 * p0)) (kf := 4) hX (lt_P q1) rfl (lay_p q1) rfl in_P (by decide) t_59 (Or.inl rfl) rfl d_P_addMortgage_18 ?_
  refine g_iload_n hX d_P_addMortgage_21 rfl 2 rfl ?_
  refine g_iload hX d_P_addMortgage_22 0 rfl ?_
  obtain ⟨q2, q3, q4, q5, q6, h⟩ := h
  refine g_copyI (i := (6 + 4 * p0)) (j := (6 + 4 * p0)) hX ⟨t_395, t_397, t_396, t_13⟩ (lt_cr q1) rfl (lay_cr q1) (lt_cr q1) rfl (lay_cr q1) q2 q3 q4 q5 q6 d_P_addMortgage_24 (Nat.le_of_ble_eq_true rfl) (Nat.le_of_ble_eq_true rfl) (wσ_cr q1 _) ?_
  refine g_aload_n hX d_P_addMortgage_27 rfl 1 rfl ?_
  refine g_getf (i := (4 + 4 * p0)) (kf := 5) hX (lt_P q1) rfl (lay_p q1) rfl in_P (by decide) t_62 (Or.inl rfl) rfl d_P_addMortgage_28 ?_
  refine g_iload_n hX d_P_addMortgage_31 rfl 2 rfl ?_
  refine g_iconst (v := 1) hX d_P_addMortgage_32 (by decide) ?_
  refine g_isub hX d_P_addMortgage_33 ?_
  refine g_aload_n hX d_P_addMortgage_34 rfl 1 rfl ?_
  refine g_getf (i := (4 + 4 * p0)) (kf := 5) hX (lt_P q1) rfl (lay_p q1) rfl in_P (by decide) t_62 (Or.inl rfl) rfl d_P_addMortgage_35 ?_
  refine g_iload_n hX d_P_addMortgage_38 rfl 2 rfl ?_
  refine g_iload hX d_P_addMortgage_39 0 rfl ?_
  obtain ⟨q7, q8, q9, q10, q11, h⟩ := h
  refine g_copyI (i := (7 + 4 * p0)) (j := (7 + 4 * p0)) hX ⟨t_395, t_397, t_396, t_13⟩ (lt_am q1) rfl (lay_am q1) (lt_am q1) rfl (lay_am q1) q7 q8 q9 q10 q11 d_P_addMortgage_41 (Nat.le_of_ble_eq_true rfl) (Nat.le_of_ble_eq_true rfl) (wσ_am q1 _) ?_
  refine g_aload_n hX d_P_addMortgage_44 rfl 1 rfl ?_
  refine g_getf (i := (4 + 4 * p0)) (kf := 4) hX (lt_P q1) rfl (lay_p q1) rfl in_P (by decide) t_59 (Or.inl rfl) rfl d_P_addMortgage_45 ?_
  refine g_iload_n hX d_P_addMortgage_48 rfl 2 rfl ?_
  refine g_iconst (v := 1) hX d_P_addMortgage_49 (by decide) ?_
  refine g_isub hX d_P_addMortgage_50 ?_
  refine g_iload_n hX d_P_addMortgage_51 rfl 3 rfl ?_
  obtain ⟨q12, h⟩ := h
  refine g_iast (i := (6 + 4 * p0)) hX (lt_cr q1) rfl (lay_cr q1) q12 d_P_addMortgage_52 (wσ_cr q1 (upd (St.I (St.aI (St.aI (σ) (100 + p0) (va_cpy (St.I (σ) (100 + p0)) (St.I (σ) (100 + p0)) ((x1 - (1 : Int32))).toNatClampNeg (x1).toNatClampNeg ((((St.I (σ) 2 p0) - x1) + (1 : Int32))).toNatClampNeg)) (200 + p0) (va_cpy (St.I (St.aI (σ) (100 + p0) (va_cpy (St.I (σ) (100 + p0)) (St.I (σ) (100 + p0)) ((x1 - (1 : Int32))).toNatClampNeg (x1).toNatClampNeg ((((St.I (σ) 2 p0) - x1) + (1 : Int32))).toNatClampNeg)) (200 + p0)) (St.I (St.aI (σ) (100 + p0) (va_cpy (St.I (σ) (100 + p0)) (St.I (σ) (100 + p0)) ((x1 - (1 : Int32))).toNatClampNeg (x1).toNatClampNeg ((((St.I (σ) 2 p0) - x1) + (1 : Int32))).toNatClampNeg)) (200 + p0)) ((x1 - (1 : Int32))).toNatClampNeg (x1).toNatClampNeg ((((St.I (σ) 2 p0) - x1) + (1 : Int32))).toNatClampNeg)) (100 + p0)) ((x1 - (1 : Int32))).toNatClampNeg x2)) ?_
  refine g_aload_n hX d_P_addMortgage_53 rfl 1 rfl ?_
  refine g_getf (i := (4 + 4 * p0)) (kf := 5) hX (lt_P q1) rfl (lay_p q1) rfl in_P (by decide) t_62 (Or.inl rfl) rfl d_P_addMortgage_54 ?_
  refine g_iload_n hX d_P_addMortgage_57 rfl 2 rfl ?_
  refine g_iconst (v := 1) hX d_P_addMortgage_58 (by decide) ?_
  refine g_isub hX d_P_addMortgage_59 ?_
  refine g_iload_n hX d_P_addMortgage_60 rfl 4 rfl ?_
  obtain ⟨q13, h⟩ := h
  refine g_iast (i := (7 + 4 * p0)) hX (lt_am q1) rfl (lay_am q1) q13 d_P_addMortgage_61 (wσ_am q1 (upd (St.I (St.sI (St.aI (St.aI (σ) (100 + p0) (va_cpy (St.I (σ) (100 + p0)) (St.I (σ) (100 + p0)) ((x1 - (1 : Int32))).toNatClampNeg (x1).toNatClampNeg ((((St.I (σ) 2 p0) - x1) + (1 : Int32))).toNatClampNeg)) (200 + p0) (va_cpy (St.I (St.aI (σ) (100 + p0) (va_cpy (St.I (σ) (100 + p0)) (St.I (σ) (100 + p0)) ((x1 - (1 : Int32))).toNatClampNeg (x1).toNatClampNeg ((((St.I (σ) 2 p0) - x1) + (1 : Int32))).toNatClampNeg)) (200 + p0)) (St.I (St.aI (σ) (100 + p0) (va_cpy (St.I (σ) (100 + p0)) (St.I (σ) (100 + p0)) ((x1 - (1 : Int32))).toNatClampNeg (x1).toNatClampNeg ((((St.I (σ) 2 p0) - x1) + (1 : Int32))).toNatClampNeg)) (200 + p0)) ((x1 - (1 : Int32))).toNatClampNeg (x1).toNatClampNeg ((((St.I (σ) 2 p0) - x1) + (1 : Int32))).toNatClampNeg)) (100 + p0) ((x1 - (1 : Int32))).toNatClampNeg x2) (200 + p0)) ((x1 - (1 : Int32))).toNatClampNeg x3)) ?_
  refine g_aload_n hX d_P_addMortgage_62 rfl 1 rfl ?_
  refine g_dup hX d_P_addMortgage_63 rfl ?_
  refine g_getf (i := (4 + 4 * p0)) (kf := 3) hX (lt_P q1) rfl (lay_p q1) rfl in_P (by decide) t_57 (Or.inl rfl) rfl d_P_addMortgage_64 ?_
  refine g_iconst (v := 1) hX d_P_addMortgage_67 (by decide) ?_
  refine g_iadd hX d_P_addMortgage_68 ?_
  refine g_putf (i := (4 + 4 * p0)) (kf := 3) (ty := .int) hX (lt_P q1) rfl (lay_p q1) rfl in_P ty_P nm_P (by decide) t_57 (Or.inl rfl) rfl (by decide +kernel) rfl rfl (by show _ < List.length _; simp) d_P_addMortgage_69 (wσ_mort q1 _) ?_
  exact g_vret hX rfl d_P_addMortgage_72 ⟨_, rfl, rfl, h⟩

def wp_P_dropMortgage (Γ : Ev) (p0 : Nat) (x1 : Int32) (σ : St) (post : St → Prop) (thr : String → St → Prop) : Prop := (p0 < 80 ∧ (¬ x1 < 0 ∧ ¬ (x1 - (1 : Int32)) < 0 ∧ ¬ ((St.I (σ) 2 p0) - x1) < 0 ∧ (x1).toNatClampNeg + (((St.I (σ) 2 p0) - x1)).toNatClampNeg ≤ 4 ∧ ((x1 - (1 : Int32))).toNatClampNeg + (((St.I (σ) 2 p0) - x1)).toNatClampNeg ≤ 4 ∧ (¬ x1 < 0 ∧ ¬ (x1 - (1 : Int32)) < 0 ∧ ¬ ((St.I (σ) 2 p0) - x1) < 0 ∧ (x1).toNatClampNeg + (((St.I (σ) 2 p0) - x1)).toNatClampNeg ≤ 4 ∧ ((x1 - (1 : Int32))).toNatClampNeg + (((St.I (σ) 2 p0) - x1)).toNatClampNeg ≤ 4 ∧ post (St.sI (St.aI (St.aI (σ) (100 + p0) (va_cpy (St.I (σ) (100 + p0)) (St.I (σ) (100 + p0)) (x1).toNatClampNeg ((x1 - (1 : Int32))).toNatClampNeg (((St.I (σ) 2 p0) - x1)).toNatClampNeg)) (200 + p0) (va_cpy (St.I (St.aI (σ) (100 + p0) (va_cpy (St.I (σ) (100 + p0)) (St.I (σ) (100 + p0)) (x1).toNatClampNeg ((x1 - (1 : Int32))).toNatClampNeg (((St.I (σ) 2 p0) - x1)).toNatClampNeg)) (200 + p0)) (St.I (St.aI (σ) (100 + p0) (va_cpy (St.I (σ) (100 + p0)) (St.I (σ) (100 + p0)) (x1).toNatClampNeg ((x1 - (1 : Int32))).toNatClampNeg (((St.I (σ) 2 p0) - x1)).toNatClampNeg)) (200 + p0)) (x1).toNatClampNeg ((x1 - (1 : Int32))).toNatClampNeg (((St.I (σ) 2 p0) - x1)).toNatClampNeg)) 2 p0 ((St.I (St.aI (St.aI (σ) (100 + p0) (va_cpy (St.I (σ) (100 + p0)) (St.I (σ) (100 + p0)) (x1).toNatClampNeg ((x1 - (1 : Int32))).toNatClampNeg (((St.I (σ) 2 p0) - x1)).toNatClampNeg)) (200 + p0) (va_cpy (St.I (St.aI (σ) (100 + p0) (va_cpy (St.I (σ) (100 + p0)) (St.I (σ) (100 + p0)) (x1).toNatClampNeg ((x1 - (1 : Int32))).toNatClampNeg (((St.I (σ) 2 p0) - x1)).toNatClampNeg)) (200 + p0)) (St.I (St.aI (σ) (100 + p0) (va_cpy (St.I (σ) (100 + p0)) (St.I (σ) (100 + p0)) (x1).toNatClampNeg ((x1 - (1 : Int32))).toNatClampNeg (((St.I (σ) 2 p0) - x1)).toNatClampNeg)) (200 + p0)) (x1).toNatClampNeg ((x1 - (1 : Int32))).toNatClampNeg (((St.I (σ) 2 p0) - x1)).toNatClampNeg)) 2 p0) - (1 : Int32))))))
abbrev rm_P_dropMortgage : Room := { frames := 1, cells := 0, slots := 0, locals := 60 }
set_option maxRecDepth 100000 in
set_option maxHeartbeats 4000000 in
theorem c_P_dropMortgage {l : Launch} {D : va_G} {AC : Nat → ClassId} {lo : Nat} {Γ : Ev} {p0 : Nat} {x1 : Int32} {σ : St} {post : St → Prop} {thr : String → St → Prop} (h : wp_P_dropMortgage Γ p0 x1 σ post thr) : Ct l y_P_dropMortgage hd_P_dropMortgage rm_P_dropMortgage D AC lo [.ref (Γ.ad (4 + 4 * p0)), .int (x1)] (wσ AC Γ σ) (pV AC Γ post) (tX AC Γ thr) := by
  refine Ct.of (by decide) (Nat.le_of_ble_eq_true rfl) ?_
  intro p e s m args below meth c hadm hX
  unfold wp_P_dropMortgage at h
  obtain ⟨q1, h⟩ := h
  show G p l e rm_P_dropMortgage s m args below meth c 3 D lo (pV AC Γ post) (tX AC Γ thr) (wσ AC Γ (σ)) 0 0 0 [(0, .ref (Γ.ad (4 + 4 * p0))), (1, .int (x1))] []
  refine g_aload_n hX d_P_dropMortgage_0 rfl 0 rfl ?_
  refine g_getf (i := (4 + 4 * p0)) (kf := 3) hX (lt_P q1) rfl (lay_p q1) rfl in_P (by decide) t_57 (Or.inl rfl) rfl d_P_dropMortgage_1 ?_
  refine g_iload_n hX d_P_dropMortgage_4 rfl 1 rfl ?_
  refine g_isub hX d_P_dropMortgage_5 ?_
  refine g_istore_n hX d_P_dropMortgage_6 rfl (by decide) rfl ?_
  refine g_aload_n hX d_P_dropMortgage_7 rfl 1 rfl ?_
  refine g_getf (i := (4 + 4 * p0)) (kf := 4) hX (lt_P q1) rfl (lay_p q1) rfl in_P (by decide) t_59 (Or.inl rfl) rfl d_P_dropMortgage_8 ?_
  refine g_iload_n hX d_P_dropMortgage_11 rfl 2 rfl ?_
  refine g_aload_n hX d_P_dropMortgage_12 rfl 1 rfl ?_
  refine g_getf (i := (4 + 4 * p0)) (kf := 4) hX (lt_P q1) rfl (lay_p q1) rfl in_P (by decide) t_59 (Or.inl rfl) rfl d_P_dropMortgage_13 ?_
  refine g_iload_n hX d_P_dropMortgage_16 rfl 2 rfl ?_
  refine g_iconst (v := 1) hX d_P_dropMortgage_17 (by decide) ?_
  refine g_isub hX d_P_dropMortgage_18 ?_
  refine g_iload_n hX d_P_dropMortgage_19 rfl 0 rfl ?_
  obtain ⟨q2, q3, q4, q5, q6, h⟩ := h
  refine g_copyI (i := (6 + 4 * p0)) (j := (6 + 4 * p0)) hX ⟨t_395, t_397, t_396, t_13⟩ (lt_cr q1) rfl (lay_cr q1) (lt_cr q1) rfl (lay_cr q1) q2 q3 q4 q5 q6 d_P_dropMortgage_20 (Nat.le_of_ble_eq_true rfl) (Nat.le_of_ble_eq_true rfl) (wσ_cr q1 _) ?_
  refine g_aload_n hX d_P_dropMortgage_23 rfl 1 rfl ?_
  refine g_getf (i := (4 + 4 * p0)) (kf := 5) hX (lt_P q1) rfl (lay_p q1) rfl in_P (by decide) t_62 (Or.inl rfl) rfl d_P_dropMortgage_24 ?_
  refine g_iload_n hX d_P_dropMortgage_27 rfl 2 rfl ?_
  refine g_aload_n hX d_P_dropMortgage_28 rfl 1 rfl ?_
  refine g_getf (i := (4 + 4 * p0)) (kf := 5) hX (lt_P q1) rfl (lay_p q1) rfl in_P (by decide) t_62 (Or.inl rfl) rfl d_P_dropMortgage_29 ?_
  refine g_iload_n hX d_P_dropMortgage_32 rfl 2 rfl ?_
  refine g_iconst (v := 1) hX d_P_dropMortgage_33 (by decide) ?_
  refine g_isub hX d_P_dropMortgage_34 ?_
  refine g_iload_n hX d_P_dropMortgage_35 rfl 0 rfl ?_
  obtain ⟨q7, q8, q9, q10, q11, h⟩ := h
  refine g_copyI (i := (7 + 4 * p0)) (j := (7 + 4 * p0)) hX ⟨t_395, t_397, t_396, t_13⟩ (lt_am q1) rfl (lay_am q1) (lt_am q1) rfl (lay_am q1) q7 q8 q9 q10 q11 d_P_dropMortgage_36 (Nat.le_of_ble_eq_true rfl) (Nat.le_of_ble_eq_true rfl) (wσ_am q1 _) ?_
  refine g_aload_n hX d_P_dropMortgage_39 rfl 1 rfl ?_
  refine g_dup hX d_P_dropMortgage_40 rfl ?_
  refine g_getf (i := (4 + 4 * p0)) (kf := 3) hX (lt_P q1) rfl (lay_p q1) rfl in_P (by decide) t_57 (Or.inl rfl) rfl d_P_dropMortgage_41 ?_
  refine g_iconst (v := 1) hX d_P_dropMortgage_44 (by decide) ?_
  refine g_isub hX d_P_dropMortgage_45 ?_
  refine g_putf (i := (4 + 4 * p0)) (kf := 3) (ty := .int) hX (lt_P q1) rfl (lay_p q1) rfl in_P ty_P nm_P (by decide) t_57 (Or.inl rfl) rfl (by decide +kernel) rfl rfl (by show _ < List.length _; simp) d_P_dropMortgage_46 (wσ_mort q1 _) ?_
  exact g_vret hX rfl d_P_dropMortgage_49 ⟨_, rfl, rfl, h⟩

def wp_P_creditorsOf_5 (Γ : Ev)  (post : Int32 → St → Prop) (thr : String → St → Prop) : Nat → Nat → Int32 → Int32 → Int32 → St → Prop
  | 0 => fun _ _ _ _ _ => False
  | fuel + 1 => fun px0 x2 x3 x4 σ => (px0 < 80 ∧ ((x2 < x4 → post x3 (σ)) ∧ (¬ x2 < x4 → (vp_in (x4 - (1 : Int32)) 4 ∧ wp_P_creditorsOf_5 Γ  post thr fuel px0 (x2) ((x3 ||| ((1 : Int32) <<< ((St.I (σ) (100 + px0) ((x4 - (1 : Int32))).toNatClampNeg) &&& 31)))) ((x4 + 1)) (σ)))))
def wp_P_creditorsOf (Γ : Ev) (p0 : Nat) (x1 : Int32) (x2 : Int32) (σ : St) (post : Int32 → St → Prop) (thr : String → St → Prop) : Prop := (p0 < 80 ∧ (∃ f5, wp_P_creditorsOf_5 Γ  post thr f5 p0 (x2) ((0 : Int32)) (x1) (σ)))
abbrev rm_P_creditorsOf : Room := { frames := 0, cells := 0, slots := 0, locals := 0 }
set_option maxRecDepth 100000 in
set_option maxHeartbeats 4000000 in
theorem b_P_creditorsOf_5 {p : Program} {l : Launch} {e : Env} {s : State} {m : MethodId} {args : Array Value} {below : List Frame} {meth : Method} {c : Code} {D : va_G} {AC : Nat → ClassId} {lo : Nat} {Γ : Ev} {post : Int32 → St → Prop} {thr : String → St → Prop} (hX : Cx p s m args meth c y_P_creditorsOf b_P_creditorsOf 5 (some .int) [] D AC lo)   : ∀ (fuel : Nat) (px0 : Nat) (x2 : Int32) (x3 : Int32) (x4 : Int32) (σ : St), wp_P_creditorsOf_5 Γ  post thr fuel px0 x2 x3 x4 σ → G p l e rm_P_creditorsOf s m args below meth c 5 D lo (pI AC Γ post) (tX AC Γ thr) (wσ AC Γ (σ)) 0 0 5 [(0, .ref (Γ.ad (4 + 4 * px0))), (2, .int (x2)), (3, .int (x3)), (4, .int (x4))] [] := by
  intro fuel
  induction fuel with
  | zero => intro px0 x2 x3 x4 σ h; exact False.elim h
  | succ fuel ih =>
    intro px0 x2 x3 x4 σ h
    simp only [wp_P_creditorsOf_5] at h
    obtain ⟨q2, h⟩ := h
    refine g_iload hX d_P_creditorsOf_5 3 rfl ?_
    refine g_iload_n hX d_P_creditorsOf_7 rfl 1 rfl ?_
    refine g_icmp_gt (tgt := 31) hX d_P_creditorsOf_8 (by decide) (fun q3 => ?_) (fun q3 => ?_)
    · have h := h.1 q3
      refine g_iload_n hX d_P_creditorsOf_31 rfl 2 rfl ?_
      exact g_iret hX rfl d_P_creditorsOf_32 ⟨_, _, rfl, rfl, h⟩
    · have h := h.2 q3
      refine g_iload_n hX d_P_creditorsOf_11 rfl 2 rfl ?_
      refine g_iconst (v := 1) hX d_P_creditorsOf_12 (by decide) ?_
      refine g_aload_n hX d_P_creditorsOf_13 rfl 0 rfl ?_
      refine g_getf (i := (4 + 4 * px0)) (kf := 4) hX (lt_P q2) rfl (lay_p q2) rfl in_P (by decide) t_59 (Or.inl rfl) rfl d_P_creditorsOf_14 ?_
      refine g_iload hX d_P_creditorsOf_17 3 rfl ?_
      refine g_iconst (v := 1) hX d_P_creditorsOf_19 (by decide) ?_
      refine g_isub hX d_P_creditorsOf_20 ?_
      obtain ⟨q4, h⟩ := h
      refine g_iald (i := (6 + 4 * px0)) hX (lt_cr q2) rfl (lay_cr q2) q4 d_P_creditorsOf_21 ?_
      refine g_ishl hX d_P_creditorsOf_22 ?_
      refine g_ior hX d_P_creditorsOf_23 ?_
      refine g_istore_n hX d_P_creditorsOf_24 rfl (by decide) rfl ?_
      refine g_iinc (v := x4 + 1) hX d_P_creditorsOf_25 3 rfl (congrArg (x4 + ·) (by decide)) (by decide) rfl ?_
      refine g_goto (tgt := 5) hX d_P_creditorsOf_28 (by decide) ?_
      refine g_sub [2, 3, 1, 0] rfl ?_
      exact ih px0 (x2) ((x3 ||| ((1 : Int32) <<< ((St.I (σ) (100 + px0) ((x4 - (1 : Int32))).toNatClampNeg) &&& 31)))) ((x4 + 1)) (σ) h
set_option maxRecDepth 100000 in
set_option maxHeartbeats 4000000 in
theorem c_P_creditorsOf {l : Launch} {D : va_G} {AC : Nat → ClassId} {lo : Nat} {Γ : Ev} {p0 : Nat} {x1 : Int32} {x2 : Int32} {σ : St} {post : Int32 → St → Prop} {thr : String → St → Prop} (h : wp_P_creditorsOf Γ p0 x1 x2 σ post thr) : Ct l y_P_creditorsOf hd_P_creditorsOf rm_P_creditorsOf D AC lo [.ref (Γ.ad (4 + 4 * p0)), .int (x1), .int (x2)] (wσ AC Γ σ) (pI AC Γ post) (tX AC Γ thr) := by
  refine Ct.of (by decide) (Nat.le_of_ble_eq_true rfl) ?_
  intro p e s m args below meth c hadm hX
  unfold wp_P_creditorsOf at h
  obtain ⟨q1, h⟩ := h
  show G p l e rm_P_creditorsOf s m args below meth c 5 D lo (pI AC Γ post) (tX AC Γ thr) (wσ AC Γ (σ)) 0 0 0 [(0, .ref (Γ.ad (4 + 4 * p0))), (1, .int (x1)), (2, .int (x2))] []
  refine g_iconst (v := 0) hX d_P_creditorsOf_0 (by decide) ?_
  refine g_istore_n hX d_P_creditorsOf_1 rfl (by decide) rfl ?_
  refine g_iload_n hX d_P_creditorsOf_2 rfl 2 rfl ?_
  refine g_istore hX d_P_creditorsOf_3 (by decide) rfl ?_
  refine g_sub [2, 4, 1, 0] rfl ?_
  obtain ⟨f5, h⟩ := h
  exact b_P_creditorsOf_5 hX  f5 _ _ _ _ _ h

def wp_P_owedTo_36 (Γ : Ev) (k5 : Nat → Int32 → Int64 → Int32 → St → Prop) (post : Int64 → St → Prop) (thr : String → St → Prop) (px0 : Nat) (x1 : Int32) (x2 : Int64) (x4 : Int32) (σ : St) : Prop := (px0 < 80 ∧ k5 px0 (x1) (x2) ((x4 + 1)) (σ))
def wp_P_owedTo_5 (Γ : Ev)  (post : Int64 → St → Prop) (thr : String → St → Prop) : Nat → Nat → Int32 → Int64 → Int32 → St → Prop
  | 0 => fun _ _ _ _ _ => False
  | fuel + 1 => fun px0 x1 x2 x4 σ => (px0 < 80 ∧ (((St.I (σ) 2 px0) ≤ x4 → post x2 (σ)) ∧ (¬ (St.I (σ) 2 px0) ≤ x4 → (vp_in x4 4 ∧ ((¬ (St.I (σ) (100 + px0) (x4).toNatClampNeg) = x1 → wp_P_owedTo_36 Γ (fun px0 x1 x2 x4 σ => wp_P_owedTo_5 Γ  post thr fuel px0 x1 x2 x4 σ) post thr px0 (x1) (x2) (x4) (σ)) ∧ ((St.I (σ) (100 + px0) (x4).toNatClampNeg) = x1 → (vp_in x4 4 ∧ wp_P_owedTo_36 Γ (fun px0 x1 x2 x4 σ => wp_P_owedTo_5 Γ  post thr fuel px0 x1 x2 x4 σ) post thr px0 (x1) ((x2 + (Int32.toInt64 (St.I (σ) (200 + px0) (x4).toNatClampNeg)))) (x4) (σ))))))))
def wp_P_owedTo (Γ : Ev) (p0 : Nat) (x1 : Int32) (σ : St) (post : Int64 → St → Prop) (thr : String → St → Prop) : Prop := (p0 < 80 ∧ (∃ f8, wp_P_owedTo_5 Γ  post thr f8 p0 (x1) ((0 : Int64)) ((0 : Int32)) (σ)))
abbrev rm_P_owedTo : Room := { frames := 0, cells := 0, slots := 0, locals := 0 }
set_option maxRecDepth 100000 in
set_option maxHeartbeats 4000000 in
theorem b_P_owedTo_36 {p : Program} {l : Launch} {e : Env} {s : State} {m : MethodId} {args : Array Value} {below : List Frame} {meth : Method} {c : Code} {D : va_G} {AC : Nat → ClassId} {lo : Nat} {Γ : Ev} {post : Int64 → St → Prop} {thr : String → St → Prop} (hX : Cx p s m args meth c y_P_owedTo b_P_owedTo 5 (some .long) [] D AC lo) {k5 : Nat → Int32 → Int64 → Int32 → St → Prop} (hk5 : ∀ (px0 : Nat) (x1 : Int32) (x2 : Int64) (x4 : Int32) (σ : St), k5 px0 x1 x2 x4 σ → G p l e rm_P_owedTo s m args below meth c 5 D lo (pL AC Γ post) (tX AC Γ thr) (wσ AC Γ (σ)) 0 0 5 [(0, .ref (Γ.ad (4 + 4 * px0))), (1, .int (x1)), (2, .long (x2)), (4, .int (x4))] []) (px0 : Nat) (x1 : Int32) (x2 : Int64) (x4 : Int32) (σ : St) (h : wp_P_owedTo_36 Γ k5 post thr px0 x1 x2 x4 σ) : G p l e rm_P_owedTo s m args below meth c 5 D lo (pL AC Γ post) (tX AC Γ thr) (wσ AC Γ (σ)) 0 0 36 [(0, .ref (Γ.ad (4 + 4 * px0))), (1, .int (x1)), (2, .long (x2)), (4, .int (x4))] [] := by
  unfold wp_P_owedTo_36 at h
  obtain ⟨q6, h⟩ := h
  refine g_iinc (v := x4 + 1) hX d_P_owedTo_36 3 rfl (congrArg (x4 + ·) (by decide)) (by decide) rfl ?_
  refine g_goto (tgt := 5) hX d_P_owedTo_39 (by decide) ?_
  refine g_sub [1, 2, 3, 0] rfl ?_
  exact hk5 px0 (x1) (x2) ((x4 + 1)) (σ) h
set_option maxRecDepth 100000 in
set_option maxHeartbeats 4000000 in
theorem b_P_owedTo_5 {p : Program} {l : Launch} {e : Env} {s : State} {m : MethodId} {args : Array Value} {below : List Frame} {meth : Method} {c : Code} {D : va_G} {AC : Nat → ClassId} {lo : Nat} {Γ : Ev} {post : Int64 → St → Prop} {thr : String → St → Prop} (hX : Cx p s m args meth c y_P_owedTo b_P_owedTo 5 (some .long) [] D AC lo)   : ∀ (fuel : Nat) (px0 : Nat) (x1 : Int32) (x2 : Int64) (x4 : Int32) (σ : St), wp_P_owedTo_5 Γ  post thr fuel px0 x1 x2 x4 σ → G p l e rm_P_owedTo s m args below meth c 5 D lo (pL AC Γ post) (tX AC Γ thr) (wσ AC Γ (σ)) 0 0 5 [(0, .ref (Γ.ad (4 + 4 * px0))), (1, .int (x1)), (2, .long (x2)), (4, .int (x4))] [] := by
  intro fuel
  induction fuel with
  | zero => intro px0 x1 x2 x4 σ h; exact False.elim h
  | succ fuel ih =>
    intro px0 x1 x2 x4 σ h
    simp only [wp_P_owedTo_5] at h
    obtain ⟨q2, h⟩ := h
    refine g_iload hX d_P_owedTo_5 3 rfl ?_
    refine g_aload_n hX d_P_owedTo_7 rfl 0 rfl ?_
    refine g_getf (i := (4 + 4 * px0)) (kf := 3) hX (lt_P q2) rfl (lay_p q2) rfl in_P (by decide) t_57 (Or.inl rfl) rfl d_P_owedTo_8 ?_
    refine g_icmp_ge (tgt := 42) hX d_P_owedTo_11 (by decide) (fun q3 => ?_) (fun q3 => ?_)
    · have h := h.1 q3
      refine g_lload_n hX d_P_owedTo_42 rfl 2 rfl ?_
      exact g_lret hX rfl d_P_owedTo_43 ⟨_, _, rfl, rfl, h⟩
    · have h := h.2 q3
      refine g_aload_n hX d_P_owedTo_14 rfl 0 rfl ?_
      refine g_getf (i := (4 + 4 * px0)) (kf := 4) hX (lt_P q2) rfl (lay_p q2) rfl in_P (by decide) t_59 (Or.inl rfl) rfl d_P_owedTo_15 ?_
      refine g_iload hX d_P_owedTo_18 3 rfl ?_
      obtain ⟨q4, h⟩ := h
      refine g_iald (i := (6 + 4 * px0)) hX (lt_cr q2) rfl (lay_cr q2) q4 d_P_owedTo_20 ?_
      refine g_iload_n hX d_P_owedTo_21 rfl 1 rfl ?_
      refine g_icmp_ne (tgt := 36) hX d_P_owedTo_22 (by decide) (fun q5 => ?_) (fun q5 => ?_)
      · have h := h.1 q5
        refine g_sub [0, 1, 2, 3] rfl ?_
        exact b_P_owedTo_36 hX (fun _ _ _ _ _ z => ih _ _ _ _ _ z) _ _ _ _ _ h
      · have h := h.2 q5
        refine g_lload_n hX d_P_owedTo_25 rfl 2 rfl ?_
        refine g_aload_n hX d_P_owedTo_26 rfl 0 rfl ?_
        refine g_getf (i := (4 + 4 * px0)) (kf := 5) hX (lt_P q2) rfl (lay_p q2) rfl in_P (by decide) t_62 (Or.inl rfl) rfl d_P_owedTo_27 ?_
        refine g_iload hX d_P_owedTo_30 3 rfl ?_
        obtain ⟨q7, h⟩ := h
        refine g_iald (i := (7 + 4 * px0)) hX (lt_am q2) rfl (lay_am q2) q7 d_P_owedTo_32 ?_
        refine g_i2l hX d_P_owedTo_33 ?_
        refine g_ladd hX d_P_owedTo_34 ?_
        refine g_lstore_n hX d_P_owedTo_35 rfl (by decide) rfl ?_
        refine g_sub [1, 2, 0, 3] rfl ?_
        exact b_P_owedTo_36 hX (fun _ _ _ _ _ z => ih _ _ _ _ _ z) _ _ _ _ _ h
set_option maxRecDepth 100000 in
set_option maxHeartbeats 4000000 in
theorem c_P_owedTo {l : Launch} {D : va_G} {AC : Nat → ClassId} {lo : Nat} {Γ : Ev} {p0 : Nat} {x1 : Int32} {σ : St} {post : Int64 → St → Prop} {thr : String → St → Prop} (h : wp_P_owedTo Γ p0 x1 σ post thr) : Ct l y_P_owedTo hd_P_owedTo rm_P_owedTo D AC lo [.ref (Γ.ad (4 + 4 * p0)), .int (x1)] (wσ AC Γ σ) (pL AC Γ post) (tX AC Γ thr) := by
  refine Ct.of (by decide) (Nat.le_of_ble_eq_true rfl) ?_
  intro p e s m args below meth c hadm hX
  unfold wp_P_owedTo at h
  obtain ⟨q1, h⟩ := h
  show G p l e rm_P_owedTo s m args below meth c 5 D lo (pL AC Γ post) (tX AC Γ thr) (wσ AC Γ (σ)) 0 0 0 [(0, .ref (Γ.ad (4 + 4 * p0))), (1, .int (x1))] []
  refine g_lconst (v := 0) hX d_P_owedTo_0 (by decide) ?_
  refine g_lstore_n hX d_P_owedTo_1 rfl (by decide) rfl ?_
  refine g_iconst (v := 0) hX d_P_owedTo_2 (by decide) ?_
  refine g_istore hX d_P_owedTo_3 (by decide) rfl ?_
  refine g_sub [2, 3, 1, 0] rfl ?_
  obtain ⟨f8, h⟩ := h
  exact b_P_owedTo_5 hX  f8 _ _ _ _ _ h

def wp_P_hasSharesOf_2 (Γ : Ev)  (post : Int32 → St → Prop) (thr : String → St → Prop) : Nat → Nat → Nat → Int32 → St → Prop
  | 0 => fun _ _ _ _ => False
  | fuel + 1 => fun px0 px1 x2 σ => (px0 < 80 ∧ (px1 < 80 ∧ (((8 : Int32) ≤ x2 → post (1 : Int32) (σ)) ∧ (¬ (8 : Int32) ≤ x2 → (vp_in x2 8 ∧ (vp_in x2 8 ∧ (((lg_cmp (St.L (σ) (100 + px0) (x2).toNatClampNeg) (St.L (σ) (100 + px1) (x2).toNatClampNeg)) = 0 → wp_P_hasSharesOf_2 Γ  post thr fuel px0 px1 ((x2 + 1)) (σ)) ∧ (¬ (lg_cmp (St.L (σ) (100 + px0) (x2).toNatClampNeg) (St.L (σ) (100 + px1) (x2).toNatClampNeg)) = 0 → post (0 : Int32) (σ)))))))))
def wp_P_hasSharesOf (Γ : Ev) (p0 : Nat) (p1 : Nat) (σ : St) (post : Int32 → St → Prop) (thr : String → St → Prop) : Prop := (p0 < 80 ∧ (p1 < 80 ∧ (∃ f9, wp_P_hasSharesOf_2 Γ  post thr f9 p0 p1 ((0 : Int32)) (σ))))
abbrev rm_P_hasSharesOf : Room := { frames := 0, cells := 0, slots := 0, locals := 0 }
set_option maxRecDepth 100000 in
set_option maxHeartbeats 4000000 in
theorem b_P_hasSharesOf_2 {p : Program} {l : Launch} {e : Env} {s : State} {m : MethodId} {args : Array Value} {below : List Frame} {meth : Method} {c : Code} {D : va_G} {AC : Nat → ClassId} {lo : Nat} {Γ : Ev} {post : Int32 → St → Prop} {thr : String → St → Prop} (hX : Cx p s m args meth c y_P_hasSharesOf b_P_hasSharesOf 3 (some .boolean) [] D AC lo)   : ∀ (fuel : Nat) (px0 : Nat) (px1 : Nat) (x2 : Int32) (σ : St), wp_P_hasSharesOf_2 Γ  post thr fuel px0 px1 x2 σ → G p l e rm_P_hasSharesOf s m args below meth c 3 D lo (pI AC Γ post) (tX AC Γ thr) (wσ AC Γ (σ)) 0 0 2 [(0, .ref (Γ.ad (4 + 4 * px0))), (1, .ref (Γ.ad (4 + 4 * px1))), (2, .int (x2))] [] := by
  intro fuel
  induction fuel with
  | zero => intro px0 px1 x2 σ h; exact False.elim h
  | succ fuel ih =>
    intro px0 px1 x2 σ h
    simp only [wp_P_hasSharesOf_2] at h
    obtain ⟨q3, q4, h⟩ := h
    refine g_iload_n hX d_P_hasSharesOf_2 rfl 2 rfl ?_
    refine g_bipush (v := 8) hX d_P_hasSharesOf_3 (by decide) ?_
    refine g_icmp_ge (tgt := 32) hX d_P_hasSharesOf_5 (by decide) (fun q5 => ?_) (fun q5 => ?_)
    · have h := h.1 q5
      refine g_iconst (v := 1) hX d_P_hasSharesOf_32 (by decide) ?_
      exact g_zret hX rfl d_P_hasSharesOf_33 (by decide) ⟨_, _, rfl, rfl, h⟩
    · have h := h.2 q5
      refine g_aload_n hX d_P_hasSharesOf_8 rfl 0 rfl ?_
      refine g_getf (i := (4 + 4 * px0)) (kf := 2) hX (lt_P q3) rfl (lay_p q3) rfl in_P (by decide) t_51 (Or.inl rfl) rfl d_P_hasSharesOf_9 ?_
      refine g_iload_n hX d_P_hasSharesOf_12 rfl 2 rfl ?_
      obtain ⟨q6, h⟩ := h
      refine g_lald (i := (5 + 4 * px0)) hX (lt_sh q3) rfl (lay_sh q3) q6 d_P_hasSharesOf_13 ?_
      refine g_aload_n hX d_P_hasSharesOf_14 rfl 1 rfl ?_
      refine g_getf (i := (4 + 4 * px1)) (kf := 2) hX (lt_P q4) rfl (lay_p q4) rfl in_P (by decide) t_51 (Or.inl rfl) rfl d_P_hasSharesOf_15 ?_
      refine g_iload_n hX d_P_hasSharesOf_18 rfl 2 rfl ?_
      obtain ⟨q7, h⟩ := h
      refine g_lald (i := (5 + 4 * px1)) hX (lt_sh q4) rfl (lay_sh q4) q7 d_P_hasSharesOf_19 ?_
      refine g_lcmp hX d_P_hasSharesOf_20 ?_
      refine g_if_eq (tgt := 26) hX d_P_hasSharesOf_21 (by decide) (fun q8 => ?_) (fun q8 => ?_)
      · have h := h.1 q8
        refine g_iinc (v := x2 + 1) hX d_P_hasSharesOf_26 2 rfl (congrArg (x2 + ·) (by decide)) (by decide) rfl ?_
        refine g_goto (tgt := 2) hX d_P_hasSharesOf_29 (by decide) ?_
        refine g_sub [1, 2, 0] rfl ?_
        exact ih px0 px1 ((x2 + 1)) (σ) h
      · have h := h.2 q8
        refine g_iconst (v := 0) hX d_P_hasSharesOf_24 (by decide) ?_
        exact g_zret hX rfl d_P_hasSharesOf_25 (by decide) ⟨_, _, rfl, rfl, h⟩
set_option maxRecDepth 100000 in
set_option maxHeartbeats 4000000 in
theorem c_P_hasSharesOf {l : Launch} {D : va_G} {AC : Nat → ClassId} {lo : Nat} {Γ : Ev} {p0 : Nat} {p1 : Nat} {σ : St} {post : Int32 → St → Prop} {thr : String → St → Prop} (h : wp_P_hasSharesOf Γ p0 p1 σ post thr) : Ct l y_P_hasSharesOf hd_P_hasSharesOf rm_P_hasSharesOf D AC lo [.ref (Γ.ad (4 + 4 * p0)), .ref (Γ.ad (4 + 4 * p1))] (wσ AC Γ σ) (pI AC Γ post) (tX AC Γ thr) := by
  refine Ct.of (by decide) (Nat.le_of_ble_eq_true rfl) ?_
  intro p e s m args below meth c hadm hX
  unfold wp_P_hasSharesOf at h
  obtain ⟨q1, q2, h⟩ := h
  show G p l e rm_P_hasSharesOf s m args below meth c 3 D lo (pI AC Γ post) (tX AC Γ thr) (wσ AC Γ (σ)) 0 0 0 [(0, .ref (Γ.ad (4 + 4 * p0))), (1, .ref (Γ.ad (4 + 4 * p1)))] []
  refine g_iconst (v := 0) hX d_P_hasSharesOf_0 (by decide) ?_
  refine g_istore_n hX d_P_hasSharesOf_1 rfl (by decide) rfl ?_
  refine g_sub [1, 2, 0] rfl ?_
  obtain ⟨f9, h⟩ := h
  exact b_P_hasSharesOf_2 hX  f9 _ _ _ _ h

def wp_P_hasMortgagesOf_15 (Γ : Ev)  (post : Int32 → St → Prop) (thr : String → St → Prop) : Nat → Nat → Nat → Int32 → St → Prop
  | 0 => fun _ _ _ _ => False
  | fuel + 1 => fun px0 px1 x2 σ => (px0 < 80 ∧ (px1 < 80 ∧ (((St.I (σ) 2 px0) ≤ x2 → post (1 : Int32) (σ)) ∧ (¬ (St.I (σ) 2 px0) ≤ x2 → (vp_in x2 4 ∧ (vp_in x2 4 ∧ ((¬ (St.I (σ) (100 + px0) (x2).toNatClampNeg) = (St.I (σ) (100 + px1) (x2).toNatClampNeg) → post (0 : Int32) (σ)) ∧ ((St.I (σ) (100 + px0) (x2).toNatClampNeg) = (St.I (σ) (100 + px1) (x2).toNatClampNeg) → (vp_in x2 4 ∧ (vp_in x2 4 ∧ (((St.I (σ) (200 + px0) (x2).toNatClampNeg) = (St.I (σ) (200 + px1) (x2).toNatClampNeg) → wp_P_hasMortgagesOf_15 Γ  post thr fuel px0 px1 ((x2 + 1)) (σ)) ∧ (¬ (St.I (σ) (200 + px0) (x2).toNatClampNeg) = (St.I (σ) (200 + px1) (x2).toNatClampNeg) → post (0 : Int32) (σ)))))))))))))
def wp_P_hasMortgagesOf (Γ : Ev) (p0 : Nat) (p1 : Nat) (σ : St) (post : Int32 → St → Prop) (thr : String → St → Prop) : Prop := (p0 < 80 ∧ (p1 < 80 ∧ (((St.I (σ) 2 p0) = (St.I (σ) 2 p1) → (∃ f13, wp_P_hasMortgagesOf_15 Γ  post thr f13 p0 p1 ((0 : Int32)) (σ))) ∧ (¬ (St.I (σ) 2 p0) = (St.I (σ) 2 p1) → post (0 : Int32) (σ)))))
abbrev rm_P_hasMortgagesOf : Room := { frames := 0, cells := 0, slots := 0, locals := 0 }
set_option maxRecDepth 100000 in
set_option maxHeartbeats 4000000 in
theorem b_P_hasMortgagesOf_15 {p : Program} {l : Launch} {e : Env} {s : State} {m : MethodId} {args : Array Value} {below : List Frame} {meth : Method} {c : Code} {D : va_G} {AC : Nat → ClassId} {lo : Nat} {Γ : Ev} {post : Int32 → St → Prop} {thr : String → St → Prop} (hX : Cx p s m args meth c y_P_hasMortgagesOf b_P_hasMortgagesOf 3 (some .boolean) [] D AC lo)   : ∀ (fuel : Nat) (px0 : Nat) (px1 : Nat) (x2 : Int32) (σ : St), wp_P_hasMortgagesOf_15 Γ  post thr fuel px0 px1 x2 σ → G p l e rm_P_hasMortgagesOf s m args below meth c 3 D lo (pI AC Γ post) (tX AC Γ thr) (wσ AC Γ (σ)) 0 0 15 [(0, .ref (Γ.ad (4 + 4 * px0))), (1, .ref (Γ.ad (4 + 4 * px1))), (2, .int (x2))] [] := by
  intro fuel
  induction fuel with
  | zero => intro px0 px1 x2 σ h; exact False.elim h
  | succ fuel ih =>
    intro px0 px1 x2 σ h
    simp only [wp_P_hasMortgagesOf_15] at h
    obtain ⟨q4, q5, h⟩ := h
    refine g_iload_n hX d_P_hasMortgagesOf_15 rfl 2 rfl ?_
    refine g_aload_n hX d_P_hasMortgagesOf_16 rfl 0 rfl ?_
    refine g_getf (i := (4 + 4 * px0)) (kf := 3) hX (lt_P q4) rfl (lay_p q4) rfl in_P (by decide) t_57 (Or.inl rfl) rfl d_P_hasMortgagesOf_17 ?_
    refine g_icmp_ge (tgt := 61) hX d_P_hasMortgagesOf_20 (by decide) (fun q6 => ?_) (fun q6 => ?_)
    · have h := h.1 q6
      refine g_iconst (v := 1) hX d_P_hasMortgagesOf_61 (by decide) ?_
      exact g_zret hX rfl d_P_hasMortgagesOf_62 (by decide) ⟨_, _, rfl, rfl, h⟩
    · have h := h.2 q6
      refine g_aload_n hX d_P_hasMortgagesOf_23 rfl 0 rfl ?_
      refine g_getf (i := (4 + 4 * px0)) (kf := 4) hX (lt_P q4) rfl (lay_p q4) rfl in_P (by decide) t_59 (Or.inl rfl) rfl d_P_hasMortgagesOf_24 ?_
      refine g_iload_n hX d_P_hasMortgagesOf_27 rfl 2 rfl ?_
      obtain ⟨q7, h⟩ := h
      refine g_iald (i := (6 + 4 * px0)) hX (lt_cr q4) rfl (lay_cr q4) q7 d_P_hasMortgagesOf_28 ?_
      refine g_aload_n hX d_P_hasMortgagesOf_29 rfl 1 rfl ?_
      refine g_getf (i := (4 + 4 * px1)) (kf := 4) hX (lt_P q5) rfl (lay_p q5) rfl in_P (by decide) t_59 (Or.inl rfl) rfl d_P_hasMortgagesOf_30 ?_
      refine g_iload_n hX d_P_hasMortgagesOf_33 rfl 2 rfl ?_
      obtain ⟨q8, h⟩ := h
      refine g_iald (i := (6 + 4 * px1)) hX (lt_cr q5) rfl (lay_cr q5) q8 d_P_hasMortgagesOf_34 ?_
      refine g_icmp_ne (tgt := 53) hX d_P_hasMortgagesOf_35 (by decide) (fun q9 => ?_) (fun q9 => ?_)
      · have h := h.1 q9
        refine g_iconst (v := 0) hX d_P_hasMortgagesOf_53 (by decide) ?_
        exact g_zret hX rfl d_P_hasMortgagesOf_54 (by decide) ⟨_, _, rfl, rfl, h⟩
      · have h := h.2 q9
        refine g_aload_n hX d_P_hasMortgagesOf_38 rfl 0 rfl ?_
        refine g_getf (i := (4 + 4 * px0)) (kf := 5) hX (lt_P q4) rfl (lay_p q4) rfl in_P (by decide) t_62 (Or.inl rfl) rfl d_P_hasMortgagesOf_39 ?_
        refine g_iload_n hX d_P_hasMortgagesOf_42 rfl 2 rfl ?_
        obtain ⟨q10, h⟩ := h
        refine g_iald (i := (7 + 4 * px0)) hX (lt_am q4) rfl (lay_am q4) q10 d_P_hasMortgagesOf_43 ?_
        refine g_aload_n hX d_P_hasMortgagesOf_44 rfl 1 rfl ?_
        refine g_getf (i := (4 + 4 * px1)) (kf := 5) hX (lt_P q5) rfl (lay_p q5) rfl in_P (by decide) t_62 (Or.inl rfl) rfl d_P_hasMortgagesOf_45 ?_
        refine g_iload_n hX d_P_hasMortgagesOf_48 rfl 2 rfl ?_
        obtain ⟨q11, h⟩ := h
        refine g_iald (i := (7 + 4 * px1)) hX (lt_am q5) rfl (lay_am q5) q11 d_P_hasMortgagesOf_49 ?_
        refine g_icmp_eq (tgt := 55) hX d_P_hasMortgagesOf_50 (by decide) (fun q12 => ?_) (fun q12 => ?_)
        · have h := h.1 q12
          refine g_iinc (v := x2 + 1) hX d_P_hasMortgagesOf_55 2 rfl (congrArg (x2 + ·) (by decide)) (by decide) rfl ?_
          refine g_goto (tgt := 15) hX d_P_hasMortgagesOf_58 (by decide) ?_
          refine g_sub [1, 2, 0] rfl ?_
          exact ih px0 px1 ((x2 + 1)) (σ) h
        · have h := h.2 q12
          refine g_iconst (v := 0) hX d_P_hasMortgagesOf_53 (by decide) ?_
          exact g_zret hX rfl d_P_hasMortgagesOf_54 (by decide) ⟨_, _, rfl, rfl, h⟩
set_option maxRecDepth 100000 in
set_option maxHeartbeats 4000000 in
theorem c_P_hasMortgagesOf {l : Launch} {D : va_G} {AC : Nat → ClassId} {lo : Nat} {Γ : Ev} {p0 : Nat} {p1 : Nat} {σ : St} {post : Int32 → St → Prop} {thr : String → St → Prop} (h : wp_P_hasMortgagesOf Γ p0 p1 σ post thr) : Ct l y_P_hasMortgagesOf hd_P_hasMortgagesOf rm_P_hasMortgagesOf D AC lo [.ref (Γ.ad (4 + 4 * p0)), .ref (Γ.ad (4 + 4 * p1))] (wσ AC Γ σ) (pI AC Γ post) (tX AC Γ thr) := by
  refine Ct.of (by decide) (Nat.le_of_ble_eq_true rfl) ?_
  intro p e s m args below meth c hadm hX
  unfold wp_P_hasMortgagesOf at h
  obtain ⟨q1, q2, h⟩ := h
  show G p l e rm_P_hasMortgagesOf s m args below meth c 3 D lo (pI AC Γ post) (tX AC Γ thr) (wσ AC Γ (σ)) 0 0 0 [(0, .ref (Γ.ad (4 + 4 * p0))), (1, .ref (Γ.ad (4 + 4 * p1)))] []
  refine g_aload_n hX d_P_hasMortgagesOf_0 rfl 0 rfl ?_
  refine g_getf (i := (4 + 4 * p0)) (kf := 3) hX (lt_P q1) rfl (lay_p q1) rfl in_P (by decide) t_57 (Or.inl rfl) rfl d_P_hasMortgagesOf_1 ?_
  refine g_aload_n hX d_P_hasMortgagesOf_4 rfl 1 rfl ?_
  refine g_getf (i := (4 + 4 * p1)) (kf := 3) hX (lt_P q2) rfl (lay_p q2) rfl in_P (by decide) t_57 (Or.inl rfl) rfl d_P_hasMortgagesOf_5 ?_
  refine g_icmp_eq (tgt := 13) hX d_P_hasMortgagesOf_8 (by decide) (fun q3 => ?_) (fun q3 => ?_)
  · have h := h.1 q3
    refine g_iconst (v := 0) hX d_P_hasMortgagesOf_13 (by decide) ?_
    refine g_istore_n hX d_P_hasMortgagesOf_14 rfl (by decide) rfl ?_
    refine g_sub [1, 2, 0] rfl ?_
    obtain ⟨f13, h⟩ := h
    exact b_P_hasMortgagesOf_15 hX  f13 _ _ _ _ h
  · have h := h.2 q3
    refine g_iconst (v := 0) hX d_P_hasMortgagesOf_11 (by decide) ?_
    exact g_zret hX rfl d_P_hasMortgagesOf_12 (by decide) ⟨_, _, rfl, rfl, h⟩
