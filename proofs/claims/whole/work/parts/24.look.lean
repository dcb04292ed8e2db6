def wp_LR_lookAt_99 (Γ : Ev) (k25 : Int32 → Int32 → Int32 → St → Prop) (post : St → Prop) (thr : String → St → Prop) (x1 : Int32) (x2 : Int32) (x3 : Int32) (σ : St) : Prop := k25 (x1) (x2) ((x3 + 1)) (σ)
def wp_LR_lookAt_59 (Γ : Ev) (k25 : Int32 → Int32 → Int32 → St → Prop) (post : St → Prop) (thr : String → St → Prop) (x1 : Int32) (x2 : Int32) (x3 : Int32) (nx4 : Nat) (σ : St) : Prop := (nx4 < Γ.nd ∧ ((2 ≤ Γ.K nx4 ∧ Γ.K nx4 ≤ 10) ∧ wp_LR_lookAt_99 Γ k25 post thr (x1) (x2) (x3) (St.sI (σ) 9 nx4 (-1 : Int32))))
def wp_LR_lookAt_25 (Γ : Ev)  (post : St → Prop) (thr : String → St → Prop) : Nat → Int32 → Int32 → Int32 → St → Prop
  | 0 => fun _ _ _ _ => False
  | fuel + 1 => fun x1 x2 x3 σ => (((St.I (σ) 0 0) ≤ x3 → post (σ)) ∧ (¬ (St.I (σ) 0 0) ≤ x3 → (vp_in x3 40 ∧ ∃ n5, St.Rf (σ) 1 (x3).toNatClampNeg = some (Γ.ad (344 + n5)) ∧ n5 < Γ.nd ∧ (2 ≤ Γ.K n5 ∧ Γ.K n5 ≤ 10) ∧ ((x1 < (St.I (σ) 7 n5) → wp_LR_lookAt_59 Γ (fun x1 x2 x3 σ => wp_LR_lookAt_25 Γ  post thr fuel x1 x2 x3 σ) post thr (x1) (x2) (x3) n5 (σ)) ∧ (¬ x1 < (St.I (σ) 7 n5) → (((St.I (σ) 8 n5) ≤ x2 → wp_De_hindrance Γ n5 (σ) (fun v12 σ13 => ((¬ (St.I (St.sI (σ13) 9 n5 v12) 9 n5) = 0 → wp_LR_lookAt_99 Γ (fun x1 x2 x3 σ => wp_LR_lookAt_25 Γ  post thr fuel x1 x2 x3 σ) post thr (x1) (x2) (x3) (St.sI (σ13) 9 n5 v12)) ∧ ((St.I (St.sI (σ13) 9 n5 v12) 9 n5) = 0 → wp_De_carryOut Γ n5 (St.sI (σ13) 9 n5 v12) (fun σ16 => wp_LR_lookAt_99 Γ (fun x1 x2 x3 σ => wp_LR_lookAt_25 Γ  post thr fuel x1 x2 x3 σ) post thr (x1) (x2) (x3) (σ16)) thr))) thr) ∧ (¬ (St.I (σ) 8 n5) ≤ x2 → wp_LR_lookAt_59 Γ (fun x1 x2 x3 σ => wp_LR_lookAt_25 Γ  post thr fuel x1 x2 x3 σ) post thr (x1) (x2) (x3) n5 (σ))))))))
def wp_LR_lookAt_2 (Γ : Ev)  (post : St → Prop) (thr : String → St → Prop) : Nat → Int32 → Int32 → Int32 → St → Prop
  | 0 => fun _ _ _ _ => False
  | fuel + 1 => fun x1 x2 x3 σ => (((80 : Int32) ≤ x3 → (∃ f17, wp_LR_lookAt_25 Γ  post thr f17 (x1) (x2) ((0 : Int32)) (σ))) ∧ (¬ (80 : Int32) ≤ x3 → (vp_in x3 80 ∧ wp_P_unmake Γ ((x3).toNatClampNeg) (σ) (fun σ20 => wp_LR_lookAt_2 Γ  post thr fuel (x1) (x2) ((x3 + 1)) (σ20)) thr)))
def wp_LR_lookAt (Γ : Ev) (x1 : Int32) (x2 : Int32) (σ : St) (post : St → Prop) (thr : String → St → Prop) : Prop := (∃ f21, wp_LR_lookAt_2 Γ  post thr f21 (x1) (x2) ((0 : Int32)) (σ))
abbrev rm_LR_lookAt : Room := { frames := 4, cells := 0, slots := 0, locals := 108 }
set_option maxRecDepth 100000 in
set_option maxHeartbeats 4000000 in
theorem b_LR_lookAt_99 {p : Program} {l : Launch} {e : Env} {s : State} {m : MethodId} {args : Array Value} {below : List Frame} {meth : Method} {c : Code} {D : va_G} {AC : Nat → ClassId} {lo : Nat} {Γ : Ev} {post : St → Prop} {thr : String → St → Prop} (hX : Cx p s m args meth c y_LR_lookAt b_LR_lookAt 5 none [] D AC lo) {k25 : Int32 → Int32 → Int32 → St → Prop} (hk25 : ∀ (x1 : Int32) (x2 : Int32) (x3 : Int32) (σ : St), k25 x1 x2 x3 σ → G p l e rm_LR_lookAt s m args below meth c 5 D lo (pV AC Γ post) (tX AC Γ thr) (wσ AC Γ (σ)) 0 0 25 [(0, .ref (Γ.ad 0)), (1, .int (x1)), (2, .int (x2)), (3, .int (x3))] []) (x1 : Int32) (x2 : Int32) (x3 : Int32) (σ : St) (h : wp_LR_lookAt_99 Γ k25 post thr x1 x2 x3 σ) : G p l e rm_LR_lookAt s m args below meth c 5 D lo (pV AC Γ post) (tX AC Γ thr) (wσ AC Γ (σ)) 0 0 99 [(0, .ref (Γ.ad 0)), (1, .int (x1)), (2, .int (x2)), (3, .int (x3))] [] := by
  unfold wp_LR_lookAt_99 at h
  refine g_iinc (v := x3 + 1) hX d_LR_lookAt_99 3 rfl (congrArg (x3 + ·) (by decide)) (by decide) rfl ?_
  refine g_goto (tgt := 25) hX d_LR_lookAt_102 (by decide) ?_
  refine g_sub [1, 2, 3, 0] rfl ?_
  exact hk25 (x1) (x2) ((x3 + 1)) (σ) h
set_option maxRecDepth 100000 in
set_option maxHeartbeats 4000000 in
theorem b_LR_lookAt_59 {p : Program} {l : Launch} {e : Env} {s : State} {m : MethodId} {args : Array Value} {below : List Frame} {meth : Method} {c : Code} {D : va_G} {AC : Nat → ClassId} {lo : Nat} {Γ : Ev} {post : St → Prop} {thr : String → St → Prop} (hX : Cx p s m args meth c y_LR_lookAt b_LR_lookAt 5 none [] D AC lo) {k25 : Int32 → Int32 → Int32 → St → Prop} (hk25 : ∀ (x1 : Int32) (x2 : Int32) (x3 : Int32) (σ : St), k25 x1 x2 x3 σ → G p l e rm_LR_lookAt s m args below meth c 5 D lo (pV AC Γ post) (tX AC Γ thr) (wσ AC Γ (σ)) 0 0 25 [(0, .ref (Γ.ad 0)), (1, .int (x1)), (2, .int (x2)), (3, .int (x3))] []) (x1 : Int32) (x2 : Int32) (x3 : Int32) (nx4 : Nat) (σ : St) (h : wp_LR_lookAt_59 Γ k25 post thr x1 x2 x3 nx4 σ) : G p l e rm_LR_lookAt s m args below meth c 5 D lo (pV AC Γ post) (tX AC Γ thr) (wσ AC Γ (σ)) 0 0 59 [(0, .ref (Γ.ad 0)), (1, .int (x1)), (2, .int (x2)), (3, .int (x3)), (4, .ref (Γ.ad (344 + nx4)))] [] := by
  unfold wp_LR_lookAt_59 at h
  obtain ⟨q9, q10, h⟩ := h
  refine g_aload hX d_LR_lookAt_59 4 rfl ?_
  refine g_iconst (v := -1) hX d_LR_lookAt_61 (by decide) ?_
  refine g_putD3 hX q9 q10 t_249 d_LR_lookAt_62 ?_
  refine g_goto (tgt := 99) hX d_LR_lookAt_65 (by decide) ?_
  refine g_sub [0, 1, 2, 3] rfl ?_
  exact b_LR_lookAt_99 hX hk25 _ _ _ _ h
set_option maxRecDepth 100000 in
set_option maxHeartbeats 4000000 in
theorem b_LR_lookAt_25 {p : Program} {l : Launch} {e : Env} {s : State} {m : MethodId} {args : Array Value} {below : List Frame} {meth : Method} {c : Code} {D : va_G} {AC : Nat → ClassId} {lo : Nat} {Γ : Ev} {post : St → Prop} {thr : String → St → Prop} (hX : Cx p s m args meth c y_LR_lookAt b_LR_lookAt 5 none [] D AC lo)   : ∀ (fuel : Nat) (x1 : Int32) (x2 : Int32) (x3 : Int32) (σ : St), wp_LR_lookAt_25 Γ  post thr fuel x1 x2 x3 σ → G p l e rm_LR_lookAt s m args below meth c 5 D lo (pV AC Γ post) (tX AC Γ thr) (wσ AC Γ (σ)) 0 0 25 [(0, .ref (Γ.ad 0)), (1, .int (x1)), (2, .int (x2)), (3, .int (x3))] [] := by
  intro fuel
  induction fuel with
  | zero => intro x1 x2 x3 σ h; exact False.elim h
  | succ fuel ih =>
    intro x1 x2 x3 σ h
    simp only [wp_LR_lookAt_25] at h
    refine g_iload_n hX d_LR_lookAt_25 rfl 3 rfl ?_
    refine g_aload_n hX d_LR_lookAt_26 rfl 0 rfl ?_
    refine g_getf (i := 0) (kf := 3) hX (lt_c (by decide)) rfl (lay_LR (AC := AC) (Γ := Γ)) rfl in_LR (by decide) t_101 (Or.inl rfl) rfl d_LR_lookAt_27 ?_
    refine g_icmp_ge (tgt := 105) hX d_LR_lookAt_30 (by decide) (fun q2 => ?_) (fun q2 => ?_)
    · have h := h.1 q2
      exact g_vret hX rfl d_LR_lookAt_105 ⟨_, rfl, rfl, h⟩
    · have h := h.2 q2
      refine g_aload_n hX d_LR_lookAt_33 rfl 0 rfl ?_
      refine g_getf (i := 0) (kf := 1) hX (lt_c (by decide)) rfl (lay_LR (AC := AC) (Γ := Γ)) rfl in_LR (by decide) t_99 (Or.inl rfl) rfl d_LR_lookAt_34 ?_
      refine g_iload_n hX d_LR_lookAt_37 rfl 3 rfl ?_
      obtain ⟨q3, n5, q4, q6, q7, h⟩ := h
      refine g_aald (i := 2) 3 hX (lt_c (by decide)) rfl (lay_bf (AC := AC) (Γ := Γ)) rfl q3 q4 d_LR_lookAt_38 ?_
      refine g_astore hX d_LR_lookAt_39 (by decide) rfl ?_
      refine g_aload hX d_LR_lookAt_41 0 rfl ?_
      refine g_getD1 hX q6 q7 t_246 d_LR_lookAt_43 ?_
      refine g_iload_n hX d_LR_lookAt_46 rfl 2 rfl ?_
      refine g_icmp_gt (tgt := 59) hX d_LR_lookAt_47 (by decide) (fun q8 => ?_) (fun q8 => ?_)
      · have h := h.1 q8
        refine g_sub [1, 2, 3, 4, 0] rfl ?_
        exact b_LR_lookAt_59 hX (fun _ _ _ _ z => ih _ _ _ _ z) _ _ _ _ _ h
      · have h := h.2 q8
        refine g_aload hX d_LR_lookAt_50 0 rfl ?_
        refine g_getD2 hX q6 q7 t_247 d_LR_lookAt_52 ?_
        refine g_iload_n hX d_LR_lookAt_55 rfl 3 rfl ?_
        refine g_icmp_le (tgt := 68) hX d_LR_lookAt_56 (by decide) (fun q11 => ?_) (fun q11 => ?_)
        · have h := h.1 q11
          refine g_aload hX d_LR_lookAt_68 0 rfl ?_
          refine g_aload hX d_LR_lookAt_70 0 rfl ?_
          refine g_aload_n hX d_LR_lookAt_72 rfl 1 rfl ?_
          refine g_getf (i := 0) (kf := 2) hX (lt_c (by decide)) rfl (lay_LR (AC := AC) (Γ := Γ)) rfl in_LR (by decide) t_100 (Or.inl rfl) rfl d_LR_lookAt_73 ?_
          refine g_abs_hindrance (k := 0) (n := 0) hX h q6 q7 rfl ⟨Nat.le_of_ble_eq_true rfl, Nat.le_of_ble_eq_true rfl⟩ (Nat.le_of_ble_eq_true rfl) d_LR_lookAt_76 ?_
          rintro _ _ ⟨v12, σ13, rfl, rfl, h⟩
          refine g_putD3 hX q6 q7 t_249 d_LR_lookAt_79 ?_
          refine g_aload hX d_LR_lookAt_82 0 rfl ?_
          refine g_getD3 hX q6 q7 t_249 d_LR_lookAt_84 ?_
          refine g_if_ne (tgt := 99) hX d_LR_lookAt_87 (by decide) (fun q14 => ?_) (fun q14 => ?_)
          · have h := h.1 q14
            refine g_sub [1, 2, 3, 4] rfl ?_
            exact b_LR_lookAt_99 hX (fun _ _ _ _ z => ih _ _ _ _ z) _ _ _ _ h
          · have h := h.2 q14
            refine g_aload hX d_LR_lookAt_90 0 rfl ?_
            refine g_aload_n hX d_LR_lookAt_92 rfl 1 rfl ?_
            refine g_getf (i := 0) (kf := 2) hX (lt_c (by decide)) rfl (lay_LR (AC := AC) (Γ := Γ)) rfl in_LR (by decide) t_100 (Or.inl rfl) rfl d_LR_lookAt_93 ?_
            refine g_abs_carryOut (k := 0) (n := 0) hX h q6 q7 rfl ⟨Nat.le_of_ble_eq_true rfl, Nat.le_of_ble_eq_true rfl⟩ (Nat.le_of_ble_eq_true rfl) d_LR_lookAt_96 ?_
            rintro _ _ ⟨σ16, rfl, rfl, h⟩
            refine g_sub [1, 2, 3, 4] rfl ?_
            exact b_LR_lookAt_99 hX (fun _ _ _ _ z => ih _ _ _ _ z) _ _ _ _ h
        · have h := h.2 q11
          refine g_sub [1, 2, 3, 4, 0] rfl ?_
          exact b_LR_lookAt_59 hX (fun _ _ _ _ z => ih _ _ _ _ z) _ _ _ _ _ h
set_option maxRecDepth 100000 in
set_option maxHeartbeats 4000000 in
theorem b_LR_lookAt_2 {p : Program} {l : Launch} {e : Env} {s : State} {m : MethodId} {args : Array Value} {below : List Frame} {meth : Method} {c : Code} {D : va_G} {AC : Nat → ClassId} {lo : Nat} {Γ : Ev} {post : St → Prop} {thr : String → St → Prop} (hX : Cx p s m args meth c y_LR_lookAt b_LR_lookAt 5 none [] D AC lo)   : ∀ (fuel : Nat) (x1 : Int32) (x2 : Int32) (x3 : Int32) (σ : St), wp_LR_lookAt_2 Γ  post thr fuel x1 x2 x3 σ → G p l e rm_LR_lookAt s m args below meth c 5 D lo (pV AC Γ post) (tX AC Γ thr) (wσ AC Γ (σ)) 0 0 2 [(0, .ref (Γ.ad 0)), (1, .int (x1)), (2, .int (x2)), (3, .int (x3))] [] := by
  intro fuel
  induction fuel with
  | zero => intro x1 x2 x3 σ h; exact False.elim h
  | succ fuel ih =>
    intro x1 x2 x3 σ h
    simp only [wp_LR_lookAt_2] at h
    refine g_iload_n hX d_LR_lookAt_2 rfl 3 rfl ?_
    refine g_bipush (v := 80) hX d_LR_lookAt_3 (by decide) ?_
    refine g_icmp_ge (tgt := 23) hX d_LR_lookAt_5 (by decide) (fun q1 => ?_) (fun q1 => ?_)
    · have h := h.1 q1
      refine g_iconst (v := 0) hX d_LR_lookAt_23 (by decide) ?_
      refine g_istore_n hX d_LR_lookAt_24 rfl (by decide) rfl ?_
      refine g_sub [1, 2, 3, 0] rfl ?_
      obtain ⟨f17, h⟩ := h
      exact b_LR_lookAt_25 hX  f17 _ _ _ _ h
    · have h := h.2 q1
      refine g_aload_n hX d_LR_lookAt_8 rfl 0 rfl ?_
      refine g_getf (i := 0) (kf := 2) hX (lt_c (by decide)) rfl (lay_LR (AC := AC) (Γ := Γ)) rfl in_LR (by decide) t_100 (Or.inl rfl) rfl d_LR_lookAt_9 ?_
      refine g_iload_n hX d_LR_lookAt_12 rfl 3 rfl ?_
      obtain ⟨q18, h⟩ := h
      refine g_aald (i := 3) 4 hX (lt_c (by decide)) rfl (lay_pa (AC := AC) (Γ := Γ) (σ := σ)) rfl q18 (if_pos (in_lt q18)) d_LR_lookAt_13 ?_
      refine g_callV (i := (4 + 4 * (x3).toNatClampNeg)) (k := 0) (n := 0) hX (c_P_unmake h) hdT_P_unmake hdO_P_unmake t_2 t_271 t_272 t_273 (lt_P (in_lt q18)) rfl (lay_p (in_lt q18)) rfl ⟨⟨by decide, by decide⟩, np_P_unmake⟩ ⟨Nat.le_of_ble_eq_true rfl, Nat.le_of_ble_eq_true rfl⟩ (Nat.le_of_ble_eq_true rfl) d_LR_lookAt_14 rfl ?_ (fun _ _ z => z)
      rintro _ _ ⟨σ20, rfl, rfl, h⟩
      refine g_iinc (v := x3 + 1) hX d_LR_lookAt_17 3 rfl (congrArg (x3 + ·) (by decide)) (by decide) rfl ?_
      refine g_goto (tgt := 2) hX d_LR_lookAt_20 (by decide) ?_
      refine g_sub [1, 2, 3, 0] rfl ?_
      exact ih (x1) (x2) ((x3 + 1)) (σ20) h
set_option maxRecDepth 100000 in
set_option maxHeartbeats 4000000 in
theorem c_LR_lookAt {l : Launch} {D : va_G} {AC : Nat → ClassId} {lo : Nat} {Γ : Ev} {x1 : Int32} {x2 : Int32} {σ : St} {post : St → Prop} {thr : String → St → Prop} (h : wp_LR_lookAt Γ x1 x2 σ post thr) : Ct l y_LR_lookAt hd_LR_lookAt rm_LR_lookAt D AC lo [.ref (Γ.ad 0), .int (x1), .int (x2)] (wσ AC Γ σ) (pV AC Γ post) (tX AC Γ thr) := by
  refine Ct.of (by decide) (Nat.le_of_ble_eq_true rfl) ?_
  intro p e s m args below meth c hadm hX
  unfold wp_LR_lookAt at h
  show G p l e rm_LR_lookAt s m args below meth c 5 D lo (pV AC Γ post) (tX AC Γ thr) (wσ AC Γ (σ)) 0 0 0 [(0, .ref (Γ.ad 0)), (1, .int (x1)), (2, .int (x2))] []
  refine g_iconst (v := 0) hX d_LR_lookAt_0 (by decide) ?_
  refine g_istore_n hX d_LR_lookAt_1 rfl (by decide) rfl ?_
  refine g_sub [1, 2, 3, 0] rfl ?_
  obtain ⟨f21, h⟩ := h
  exact b_LR_lookAt_2 hX  f21 _ _ _ _ h

def wp_LR_file_76 (Γ : Ev)  (post : Int32 → St → Prop) (thr : String → St → Prop) (nx2 : Nat) (x3 : Int32) (x4 : Int32) (σ : St) : Prop := (nx2 < Γ.nd ∧ ((2 ≤ Γ.K nx2 ∧ Γ.K nx2 ≤ 10) ∧ (vp_in x4 40 ∧ wp_LR_lookAt Γ ((St.I (St.sI (St.aR (σ) 1 (va_up (St.Rf (σ) 1) (x4).toNatClampNeg (some (Γ.ad (344 + nx2))))) 0 0 ((St.I (St.aR (σ) 1 (va_up (St.Rf (σ) 1) (x4).toNatClampNeg (some (Γ.ad (344 + nx2))))) 0 0) + (1 : Int32))) 0 1)) ((St.I (St.sI (St.aR (σ) 1 (va_up (St.Rf (σ) 1) (x4).toNatClampNeg (some (Γ.ad (344 + nx2))))) 0 0 ((St.I (St.aR (σ) 1 (va_up (St.Rf (σ) 1) (x4).toNatClampNeg (some (Γ.ad (344 + nx2))))) 0 0) + (1 : Int32))) 0 1)) (St.sI (St.aR (σ) 1 (va_up (St.Rf (σ) 1) (x4).toNatClampNeg (some (Γ.ad (344 + nx2))))) 0 0 ((St.I (St.aR (σ) 1 (va_up (St.Rf (σ) 1) (x4).toNatClampNeg (some (Γ.ad (344 + nx2))))) 0 0) + (1 : Int32))) (fun σ11 => post x3 (σ11)) thr)))
def wp_LR_file_33 (Γ : Ev)  (post : Int32 → St → Prop) (thr : String → St → Prop) : Nat → Int32 → Nat → Int32 → Int32 → St → Prop
  | 0 => fun _ _ _ _ _ => False
  | fuel + 1 => fun x1 nx2 x3 x4 σ => (nx2 < Γ.nd ∧ ((2 ≤ Γ.K nx2 ∧ Γ.K nx2 ≤ 10) ∧ ((x4 ≤ 0 → wp_LR_file_76 Γ  post thr nx2 (x3) (x4) (σ)) ∧ (¬ x4 ≤ 0 → (vp_in (x4 - (1 : Int32)) 40 ∧ ∃ n14, St.Rf (σ) 1 ((x4 - (1 : Int32))).toNatClampNeg = some (Γ.ad (344 + n14)) ∧ n14 < Γ.nd ∧ (2 ≤ Γ.K n14 ∧ Γ.K n14 ≤ 10) ∧ (((St.I (σ) 8 n14) ≤ x1 → wp_LR_file_76 Γ  post thr nx2 (x3) (x4) (σ)) ∧ (¬ (St.I (σ) 8 n14) ≤ x1 → (vp_in (x4 - (1 : Int32)) 40 ∧ ∃ n20, St.Rf (σ) 1 ((x4 - (1 : Int32))).toNatClampNeg = some (Γ.ad (344 + n20)) ∧ n20 < Γ.nd ∧ (2 ≤ Γ.K n20 ∧ Γ.K n20 ≤ 10) ∧ (vp_in x4 40 ∧ wp_LR_file_33 Γ  post thr fuel (x1) nx2 (x3) ((x4 + (-1))) (St.aR (σ) 1 (va_up (St.Rf (σ) 1) (x4).toNatClampNeg (some (Γ.ad (344 + n20))))))))))))))
def wp_LR_file (Γ : Ev) (x1 : Int32) (n2 : Nat) (σ : St) (post : Int32 → St → Prop) (thr : String → St → Prop) : Prop := (n2 < Γ.nd ∧ ((2 ≤ Γ.K n2 ∧ Γ.K n2 ≤ 10) ∧ (vp_in (St.I (σ) 0 0) 40 ∧ (∃ f24, wp_LR_file_33 Γ  post thr f24 (x1) n2 ((St.I (σ) 0 0)) ((St.I (σ) 0 0)) (St.aR (St.sI (St.sI (St.sI (σ) 6 n2 (St.I (σ) 0 0)) 7 n2 (St.I (St.sI (σ) 6 n2 (St.I (σ) 0 0)) 0 1)) 8 n2 x1) 0 (va_up (St.Rf (St.sI (St.sI (St.sI (σ) 6 n2 (St.I (σ) 0 0)) 7 n2 (St.I (St.sI (σ) 6 n2 (St.I (σ) 0 0)) 0 1)) 8 n2 x1) 0) ((St.I (σ) 0 0)).toNatClampNeg (some (Γ.ad (344 + n2)))))))))
abbrev rm_LR_file : Room := { frames := 5, cells := 0, slots := 0, locals := 132 }
set_option maxRecDepth 100000 in
set_option maxHeartbeats 4000000 in
theorem b_LR_file_76 {p : Program} {l : Launch} {e : Env} {s : State} {m : MethodId} {args : Array Value} {below : List Frame} {meth : Method} {c : Code} {D : va_G} {AC : Nat → ClassId} {lo : Nat} {Γ : Ev} {post : Int32 → St → Prop} {thr : String → St → Prop} (hX : Cx p s m args meth c y_LR_file b_LR_file 5 (some .int) [] D AC lo)   (nx2 : Nat) (x3 : Int32) (x4 : Int32) (σ : St) (h : wp_LR_file_76 Γ  post thr nx2 x3 x4 σ) : G p l e rm_LR_file s m args below meth c 5 D lo (pI AC Γ post) (tX AC Γ thr) (wσ AC Γ (σ)) 0 0 76 [(0, .ref (Γ.ad 0)), (2, .ref (Γ.ad (344 + nx2))), (3, .int (x3)), (4, .int (x4))] [] := by
  unfold wp_LR_file_76 at h
  obtain ⟨q7, q8, h⟩ := h
  refine g_aload_n hX d_LR_file_76 rfl 0 rfl ?_
  refine g_getf (i := 0) (kf := 1) hX (lt_c (by decide)) rfl (lay_LR (AC := AC) (Γ := Γ)) rfl in_LR (by decide) t_99 (Or.inl rfl) rfl d_LR_file_77 ?_
  refine g_iload hX d_LR_file_80 3 rfl ?_
  refine g_aload_n hX d_LR_file_82 rfl 1 rfl ?_
  obtain ⟨q9, h⟩ := h
  refine g_aastD (i := 2) hX (lt_c (by decide)) rfl (lay_bf (AC := AC) (Γ := Γ)) q7 q8 q9 d_LR_file_83 (wσ_bf _) ?_
  refine g_aload_n hX d_LR_file_84 rfl 0 rfl ?_
  refine g_dup hX d_LR_file_85 rfl ?_
  refine g_getf (i := 0) (kf := 3) hX (lt_c (by decide)) rfl (lay_LR (AC := AC) (Γ := Γ)) rfl in_LR (by decide) t_101 (Or.inl rfl) rfl d_LR_file_86 ?_
  refine g_iconst (v := 1) hX d_LR_file_89 (by decide) ?_
  refine g_iadd hX d_LR_file_90 ?_
  refine g_putf (i := 0) (kf := 3) (ty := .int) hX (lt_c (by decide)) rfl (lay_LR (AC := AC) (Γ := Γ)) rfl in_LR ty_LR nm_LR (by decide) t_101 (Or.inl rfl) rfl (by decide +kernel) rfl rfl (by show _ < List.length _; simp) d_LR_file_91 (wσ_filed _) ?_
  refine g_aload_n hX d_LR_file_94 rfl 0 rfl ?_
  refine g_aload_n hX d_LR_file_95 rfl 0 rfl ?_
  refine g_getf (i := 0) (kf := 4) hX (lt_c (by decide)) rfl (lay_LR (AC := AC) (Γ := Γ)) rfl in_LR (by decide) t_102 (Or.inl rfl) rfl d_LR_file_96 ?_
  refine g_aload_n hX d_LR_file_99 rfl 0 rfl ?_
  refine g_getf (i := 0) (kf := 4) hX (lt_c (by decide)) rfl (lay_LR (AC := AC) (Γ := Γ)) rfl in_LR (by decide) t_102 (Or.inl rfl) rfl d_LR_file_100 ?_
  refine g_callV (i := 0) (k := 0) (n := 0) hX (c_LR_lookAt h) hdT_LR_lookAt hdO_LR_lookAt t_1 t_267 t_269 ts_LR_lookAt (lt_c (by decide)) rfl (lay_LR (AC := AC) (Γ := Γ)) rfl ⟨⟨by decide, by decide⟩, np_LR_lookAt⟩ ⟨Nat.le_of_ble_eq_true rfl, Nat.le_of_ble_eq_true rfl⟩ (Nat.le_of_ble_eq_true rfl) d_LR_file_103 rfl ?_ (fun _ _ z => z)
  rintro _ _ ⟨σ11, rfl, rfl, h⟩
  refine g_iload_n hX d_LR_file_106 rfl 2 rfl ?_
  exact g_iret hX rfl d_LR_file_107 ⟨_, _, rfl, rfl, h⟩
set_option maxRecDepth 100000 in
set_option maxHeartbeats 4000000 in
theorem b_LR_file_33 {p : Program} {l : Launch} {e : Env} {s : State} {m : MethodId} {args : Array Value} {below : List Frame} {meth : Method} {c : Code} {D : va_G} {AC : Nat → ClassId} {lo : Nat} {Γ : Ev} {post : Int32 → St → Prop} {thr : String → St → Prop} (hX : Cx p s m args meth c y_LR_file b_LR_file 5 (some .int) [] D AC lo)   : ∀ (fuel : Nat) (x1 : Int32) (nx2 : Nat) (x3 : Int32) (x4 : Int32) (σ : St), wp_LR_file_33 Γ  post thr fuel x1 nx2 x3 x4 σ → G p l e rm_LR_file s m args below meth c 5 D lo (pI AC Γ post) (tX AC Γ thr) (wσ AC Γ (σ)) 0 0 33 [(0, .ref (Γ.ad 0)), (1, .int (x1)), (2, .ref (Γ.ad (344 + nx2))), (3, .int (x3)), (4, .int (x4))] [] := by
  intro fuel
  induction fuel with
  | zero => intro x1 nx2 x3 x4 σ h; exact False.elim h
  | succ fuel ih =>
    intro x1 nx2 x3 x4 σ h
    simp only [wp_LR_file_33] at h
    obtain ⟨q4, q5, h⟩ := h
    refine g_iload hX d_LR_file_33 4 rfl ?_
    refine g_if_le (tgt := 76) hX d_LR_file_35 (by decide) (fun q6 => ?_) (fun q6 => ?_)
    · have h := h.1 q6
      refine g_sub [0, 2, 3, 4] rfl ?_
      exact b_LR_file_76 hX  _ _ _ _ h
    · have h := h.2 q6
      refine g_aload_n hX d_LR_file_38 rfl 0 rfl ?_
      refine g_getf (i := 0) (kf := 1) hX (lt_c (by decide)) rfl (lay_LR (AC := AC) (Γ := Γ)) rfl in_LR (by decide) t_99 (Or.inl rfl) rfl d_LR_file_39 ?_
      refine g_iload hX d_LR_file_42 4 rfl ?_
      refine g_iconst (v := 1) hX d_LR_file_44 (by decide) ?_
      refine g_isub hX d_LR_file_45 ?_
      obtain ⟨q12, n14, q13, q15, q16, h⟩ := h
      refine g_aald (i := 2) 3 hX (lt_c (by decide)) rfl (lay_bf (AC := AC) (Γ := Γ)) rfl q12 q13 d_LR_file_46 ?_
      refine g_getD2 hX q15 q16 t_247 d_LR_file_47 ?_
      refine g_iload_n hX d_LR_file_50 rfl 1 rfl ?_
      refine g_icmp_le (tgt := 76) hX d_LR_file_51 (by decide) (fun q17 => ?_) (fun q17 => ?_)
      · have h := h.1 q17
        refine g_sub [0, 2, 3, 4] rfl ?_
        exact b_LR_file_76 hX  _ _ _ _ h
      · have h := h.2 q17
        refine g_aload_n hX d_LR_file_54 rfl 0 rfl ?_
        refine g_getf (i := 0) (kf := 1) hX (lt_c (by decide)) rfl (lay_LR (AC := AC) (Γ := Γ)) rfl in_LR (by decide) t_99 (Or.inl rfl) rfl d_LR_file_55 ?_
        refine g_iload hX d_LR_file_58 4 rfl ?_
        refine g_aload_n hX d_LR_file_60 rfl 0 rfl ?_
        refine g_getf (i := 0) (kf := 1) hX (lt_c (by decide)) rfl (lay_LR (AC := AC) (Γ := Γ)) rfl in_LR (by decide) t_99 (Or.inl rfl) rfl d_LR_file_61 ?_
        refine g_iload hX d_LR_file_64 4 rfl ?_
        refine g_iconst (v := 1) hX d_LR_file_66 (by decide) ?_
        refine g_isub hX d_LR_file_67 ?_
        obtain ⟨q18, n20, q19, q21, q22, h⟩ := h
        refine g_aald (i := 2) 3 hX (lt_c (by decide)) rfl (lay_bf (AC := AC) (Γ := Γ)) rfl q18 q19 d_LR_file_68 ?_
        obtain ⟨q23, h⟩ := h
        refine g_aastD (i := 2) hX (lt_c (by decide)) rfl (lay_bf (AC := AC) (Γ := Γ)) q21 q22 q23 d_LR_file_69 (wσ_bf _) ?_
        refine g_iinc (v := x4 + (-1)) hX d_LR_file_70 4 rfl (congrArg (x4 + ·) (by decide)) (by decide) rfl ?_
        refine g_goto (tgt := 33) hX d_LR_file_73 (by decide) ?_
        refine g_sub [1, 2, 3, 4, 0] rfl ?_
        exact ih (x1) nx2 (x3) ((x4 + (-1))) (St.aR (σ) 1 (va_up (St.Rf (σ) 1) (x4).toNatClampNeg (some (Γ.ad (344 + n20))))) h
set_option maxRecDepth 100000 in
set_option maxHeartbeats 4000000 in
theorem c_LR_file {l : Launch} {D : va_G} {AC : Nat → ClassId} {lo : Nat} {Γ : Ev} {x1 : Int32} {n2 : Nat} {σ : St} {post : Int32 → St → Prop} {thr : String → St → Prop} (h : wp_LR_file Γ x1 n2 σ post thr) : Ct l y_LR_file hd_LR_file rm_LR_file D AC lo [.ref (Γ.ad 0), .int (x1), .ref (Γ.ad (344 + n2))] (wσ AC Γ σ) (pI AC Γ post) (tX AC Γ thr) := by
  refine Ct.of (by decide) (Nat.le_of_ble_eq_true rfl) ?_
  intro p e s m args below meth c hadm hX
  unfold wp_LR_file at h
  obtain ⟨q1, q2, h⟩ := h
  show G p l e rm_LR_file s m args below meth c 5 D lo (pI AC Γ post) (tX AC Γ thr) (wσ AC Γ (σ)) 0 0 0 [(0, .ref (Γ.ad 0)), (1, .int (x1)), (2, .ref (Γ.ad (344 + n2)))] []
  refine g_aload_n hX d_LR_file_0 rfl 0 rfl ?_
  refine g_getf (i := 0) (kf := 3) hX (lt_c (by decide)) rfl (lay_LR (AC := AC) (Γ := Γ)) rfl in_LR (by decide) t_101 (Or.inl rfl) rfl d_LR_file_1 ?_
  refine g_istore_n hX d_LR_file_4 rfl (by decide) rfl ?_
  refine g_aload_n hX d_LR_file_5 rfl 3 rfl ?_
  refine g_iload_n hX d_LR_file_6 rfl 0 rfl ?_
  refine g_putD0 hX q1 q2 t_245 d_LR_file_7 ?_
  refine g_aload_n hX d_LR_file_10 rfl 3 rfl ?_
  refine g_aload_n hX d_LR_file_11 rfl 1 rfl ?_
  refine g_getf (i := 0) (kf := 4) hX (lt_c (by decide)) rfl (lay_LR (AC := AC) (Γ := Γ)) rfl in_LR (by decide) t_102 (Or.inl rfl) rfl d_LR_file_12 ?_
  refine g_putD1 hX q1 q2 t_246 d_LR_file_15 ?_
  refine g_aload_n hX d_LR_file_18 rfl 3 rfl ?_
  refine g_iload_n hX d_LR_file_19 rfl 2 rfl ?_
  refine g_putD2 hX q1 q2 t_247 d_LR_file_20 ?_
  refine g_aload_n hX d_LR_file_23 rfl 1 rfl ?_
  refine g_getf (i := 0) (kf := 0) hX (lt_c (by decide)) rfl (lay_LR (AC := AC) (Γ := Γ)) rfl in_LR (by decide) t_98 (Or.inl rfl) rfl d_LR_file_24 ?_
  refine g_iload_n hX d_LR_file_27 rfl 0 rfl ?_
  refine g_aload_n hX d_LR_file_28 rfl 3 rfl ?_
  obtain ⟨q3, h⟩ := h
  refine g_aastD (i := 1) hX (lt_c (by decide)) rfl (lay_bn (AC := AC) (Γ := Γ)) q1 q2 q3 d_LR_file_29 (wσ_bn _) ?_
  refine g_iload_n hX d_LR_file_30 rfl 0 rfl ?_
  refine g_istore hX d_LR_file_31 (by decide) rfl ?_
  refine g_sub [2, 3, 4, 1, 0] rfl ?_
  obtain ⟨f24, h⟩ := h
  exact b_LR_file_33 hX  f24 _ _ _ _ _ h

def wp_LR_day (Γ : Ev)  (σ : St) (post : Int32 → St → Prop) (thr : String → St → Prop) : Prop := (((St.I (σ) 0 1) < (60 : Int32) → wp_LR_lookAt Γ ((St.I (St.sI (σ) 0 1 ((St.I (σ) 0 1) + (1 : Int32))) 0 1)) ((St.I (St.sI (σ) 0 1 ((St.I (σ) 0 1) + (1 : Int32))) 0 1)) (St.sI (σ) 0 1 ((St.I (σ) 0 1) + (1 : Int32))) (fun σ3 => post (St.I (σ3) 0 1) (σ3)) thr) ∧ (¬ (St.I (σ) 0 1) < (60 : Int32) → thr "java/lang/IllegalStateException" (σ)))
abbrev rm_LR_day : Room := { frames := 6, cells := 1, slots := 6, locals := 132 }
set_option maxRecDepth 100000 in
set_option maxHeartbeats 4000000 in
theorem c_LR_day {l : Launch} {D : va_G} {AC : Nat → ClassId} {lo : Nat} {Γ : Ev}  {σ : St} {post : Int32 → St → Prop} {thr : String → St → Prop} (hl : l.flags = pinnedFlags ++ [noTraceFlag]) (h : wp_LR_day Γ  σ post thr) : Ct l y_LR_day hd_LR_day rm_LR_day D AC lo [.ref (Γ.ad 0)] (wσ AC Γ σ) (pI AC Γ post) (tX AC Γ thr) := by
  refine Ct.of (by decide) (Nat.le_of_ble_eq_true rfl) ?_
  intro p e s m args below meth c hadm hX
  unfold wp_LR_day at h
  show G p l e rm_LR_day s m args below meth c 1 D lo (pI AC Γ post) (tX AC Γ thr) (wσ AC Γ (σ)) 1 6 0 [(0, .ref (Γ.ad 0))] []
  refine g_aload_n hX d_LR_day_0 rfl 0 rfl ?_
  refine g_getf (i := 0) (kf := 4) hX (lt_c (by decide)) rfl (lay_LR (AC := AC) (Γ := Γ)) rfl in_LR (by decide) t_102 (Or.inl rfl) rfl d_LR_day_1 ?_
  refine g_bipush (v := 60) hX d_LR_day_4 (by decide) ?_
  refine g_icmp_lt (tgt := 19) hX d_LR_day_6 (by decide) (fun q1 => ?_) (fun q1 => ?_)
  · have h := h.1 q1
    refine g_aload_n hX d_LR_day_19 rfl 0 rfl ?_
    refine g_dup hX d_LR_day_20 rfl ?_
    refine g_getf (i := 0) (kf := 4) hX (lt_c (by decide)) rfl (lay_LR (AC := AC) (Γ := Γ)) rfl in_LR (by decide) t_102 (Or.inl rfl) rfl d_LR_day_21 ?_
    refine g_iconst (v := 1) hX d_LR_day_24 (by decide) ?_
    refine g_iadd hX d_LR_day_25 ?_
    refine g_putf (i := 0) (kf := 4) (ty := .int) hX (lt_c (by decide)) rfl (lay_LR (AC := AC) (Γ := Γ)) rfl in_LR ty_LR nm_LR (by decide) t_102 (Or.inl rfl) rfl (by decide +kernel) rfl rfl (by show _ < List.length _; simp) d_LR_day_26 (wσ_today _) ?_
    refine g_aload_n hX d_LR_day_29 rfl 0 rfl ?_
    refine g_aload_n hX d_LR_day_30 rfl 0 rfl ?_
    refine g_getf (i := 0) (kf := 4) hX (lt_c (by decide)) rfl (lay_LR (AC := AC) (Γ := Γ)) rfl in_LR (by decide) t_102 (Or.inl rfl) rfl d_LR_day_31 ?_
    refine g_aload_n hX d_LR_day_34 rfl 0 rfl ?_
    refine g_getf (i := 0) (kf := 4) hX (lt_c (by decide)) rfl (lay_LR (AC := AC) (Γ := Γ)) rfl in_LR (by decide) t_102 (Or.inl rfl) rfl d_LR_day_35 ?_
    refine g_callV (i := 0) (k := 1) (n := 6) hX (c_LR_lookAt h) hdT_LR_lookAt hdO_LR_lookAt t_1 t_267 t_269 ts_LR_lookAt (lt_c (by decide)) rfl (lay_LR (AC := AC) (Γ := Γ)) rfl ⟨⟨by decide, by decide⟩, np_LR_lookAt⟩ ⟨Nat.le_of_ble_eq_true rfl, Nat.le_of_ble_eq_true rfl⟩ (Nat.le_of_ble_eq_true rfl) d_LR_day_38 rfl ?_ (fun _ _ z => z)
    rintro _ _ ⟨σ3, rfl, rfl, h⟩
    refine g_aload_n hX d_LR_day_41 rfl 0 rfl ?_
    refine g_getf (i := 0) (kf := 4) hX (lt_c (by decide)) rfl (lay_LR (AC := AC) (Γ := Γ)) rfl in_LR (by decide) t_102 (Or.inl rfl) rfl d_LR_day_42 ?_
    exact g_iret hX rfl d_LR_day_45 ⟨_, _, rfl, rfl, h⟩
  · have h := h.2 q1
    exact g_throw (names := upX) hX hl fit_IllegalStateException fit_up all_IllegalStateException t_212 t_8 (str_in (own := "LandRegister") (k := 96) (tx := "it is the last day") (by decide +kernel)) d_LR_day_9 d_LR_day_12 d_LR_day_13 d_LR_day_15 d_LR_day_18 (Nat.le_of_ble_eq_true rfl) (Nat.le_of_ble_eq_true rfl) ⟨_, rfl, h⟩

def wp_LR_view_22 (Γ : Ev)  (post : Int32 → St → Prop) (thr : String → St → Prop)  (σ : St) : Prop := thr "java/lang/IllegalArgumentException" (σ)
def wp_LR_view_66 (Γ : Ev) (k43 : Int32 → Int32 → St → Prop) (post : Int32 → St → Prop) (thr : String → St → Prop) (x3 : Int32) (x4 : Int32) (σ : St) : Prop := k43 (x3) ((x4 + 1)) (σ)
def wp_LR_view_43 (Γ : Ev)  (post : Int32 → St → Prop) (thr : String → St → Prop) : Nat → Int32 → Int32 → St → Prop
  | 0 => fun _ _ _ => False
  | fuel + 1 => fun x3 x4 σ => (((80 : Int32) ≤ x4 → post x3 (σ)) ∧ (¬ (80 : Int32) ≤ x4 → (vp_in x4 80 ∧ (((St.I (σ) 1 ((x4).toNatClampNeg)) = 0 → wp_LR_view_66 Γ (fun x3 x4 σ => wp_LR_view_43 Γ  post thr fuel x3 x4 σ) post thr (x3) (x4) (σ)) ∧ (¬ (St.I (σ) 1 ((x4).toNatClampNeg)) = 0 → wp_LR_view_66 Γ (fun x3 x4 σ => wp_LR_view_43 Γ  post thr fuel x3 x4 σ) post thr ((x3 + 1)) (x4) (σ))))))
def wp_LR_view (Γ : Ev) (x1 : Int32) (x2 : Int32) (σ : St) (post : Int32 → St → Prop) (thr : String → St → Prop) : Prop := ((x1 < 0 → wp_LR_view_22 Γ  post thr  (σ)) ∧ (¬ x1 < 0 → (((St.I (σ) 0 1) < x1 → wp_LR_view_22 Γ  post thr  (σ)) ∧ (¬ (St.I (σ) 0 1) < x1 → ((x2 < 0 → wp_LR_view_22 Γ  post thr  (σ)) ∧ (¬ x2 < 0 → ((x2 ≤ (60 : Int32) → wp_LR_lookAt Γ (x1) (x2) (σ) (fun σ6 => (∃ f10, wp_LR_view_43 Γ  post thr f10 ((0 : Int32)) ((0 : Int32)) (σ6))) thr) ∧ (¬ x2 ≤ (60 : Int32) → wp_LR_view_22 Γ  post thr  (σ)))))))))
abbrev rm_LR_view : Room := { frames := 6, cells := 1, slots := 6, locals := 132 }
set_option maxRecDepth 100000 in
set_option maxHeartbeats 4000000 in
theorem b_LR_view_22 {p : Program} {l : Launch} {e : Env} {s : State} {m : MethodId} {args : Array Value} {below : List Frame} {meth : Method} {c : Code} {D : va_G} {AC : Nat → ClassId} {lo : Nat} {Γ : Ev} {post : Int32 → St → Prop} {thr : String → St → Prop} (hX : Cx p s m args meth c y_LR_view b_LR_view 5 (some .int) [] D AC lo) (hl : l.flags = pinnedFlags ++ [noTraceFlag])    (σ : St) (h : wp_LR_view_22 Γ  post thr  σ) : G p l e rm_LR_view s m args below meth c 5 D lo (pI AC Γ post) (tX AC Γ thr) (wσ AC Γ (σ)) 1 6 22 [] [] := by
  unfold wp_LR_view_22 at h
  exact g_throw (names := upX) hX hl fit_IllegalArgumentException fit_up all_IllegalArgumentException t_131 t_7 (str_in (own := "LandRegister") (k := 106) (tx := "no such view") (by decide +kernel)) d_LR_view_22 d_LR_view_25 d_LR_view_26 d_LR_view_28 d_LR_view_31 (Nat.le_of_ble_eq_true rfl) (Nat.le_of_ble_eq_true rfl) ⟨_, rfl, h⟩
set_option maxRecDepth 100000 in
set_option maxHeartbeats 4000000 in
theorem b_LR_view_66 {p : Program} {l : Launch} {e : Env} {s : State} {m : MethodId} {args : Array Value} {below : List Frame} {meth : Method} {c : Code} {D : va_G} {AC : Nat → ClassId} {lo : Nat} {Γ : Ev} {post : Int32 → St → Prop} {thr : String → St → Prop} (hX : Cx p s m args meth c y_LR_view b_LR_view 5 (some .int) [] D AC lo) (hl : l.flags = pinnedFlags ++ [noTraceFlag]) {k43 : Int32 → Int32 → St → Prop} (hk43 : ∀ (x3 : Int32) (x4 : Int32) (σ : St), k43 x3 x4 σ → G p l e rm_LR_view s m args below meth c 5 D lo (pI AC Γ post) (tX AC Γ thr) (wσ AC Γ (σ)) 1 6 43 [(0, .ref (Γ.ad 0)), (3, .int (x3)), (4, .int (x4))] []) (x3 : Int32) (x4 : Int32) (σ : St) (h : wp_LR_view_66 Γ k43 post thr x3 x4 σ) : G p l e rm_LR_view s m args below meth c 5 D lo (pI AC Γ post) (tX AC Γ thr) (wσ AC Γ (σ)) 1 6 66 [(0, .ref (Γ.ad 0)), (3, .int (x3)), (4, .int (x4))] [] := by
  unfold wp_LR_view_66 at h
  refine g_iinc (v := x4 + 1) hX d_LR_view_66 2 rfl (congrArg (x4 + ·) (by decide)) (by decide) rfl ?_
  refine g_goto (tgt := 43) hX d_LR_view_69 (by decide) ?_
  refine g_sub [1, 2, 0] rfl ?_
  exact hk43 (x3) ((x4 + 1)) (σ) h
set_option maxRecDepth 100000 in
set_option maxHeartbeats 4000000 in
theorem b_LR_view_43 {p : Program} {l : Launch} {e : Env} {s : State} {m : MethodId} {args : Array Value} {below : List Frame} {meth : Method} {c : Code} {D : va_G} {AC : Nat → ClassId} {lo : Nat} {Γ : Ev} {post : Int32 → St → Prop} {thr : String → St → Prop} (hX : Cx p s m args meth c y_LR_view b_LR_view 5 (some .int) [] D AC lo) (hl : l.flags = pinnedFlags ++ [noTraceFlag])   : ∀ (fuel : Nat) (x3 : Int32) (x4 : Int32) (σ : St), wp_LR_view_43 Γ  post thr fuel x3 x4 σ → G p l e rm_LR_view s m args below meth c 5 D lo (pI AC Γ post) (tX AC Γ thr) (wσ AC Γ (σ)) 1 6 43 [(0, .ref (Γ.ad 0)), (3, .int (x3)), (4, .int (x4))] [] := by
  intro fuel
  induction fuel with
  | zero => intro x3 x4 σ h; exact False.elim h
  | succ fuel ih =>
    intro x3 x4 σ h
    simp only [wp_LR_view_43] at h
    refine g_iload hX d_LR_view_43 2 rfl ?_
    refine g_bipush (v := 80) hX d_LR_view_45 (by decide) ?_
    refine g_icmp_ge (tgt := 72) hX d_LR_view_47 (by decide) (fun q7 => ?_) (fun q7 => ?_)
    · have h := h.1 q7
      refine g_iload_n hX d_LR_view_72 rfl 1 rfl ?_
      exact g_iret hX rfl d_LR_view_73 ⟨_, _, rfl, rfl, h⟩
    · have h := h.2 q7
      refine g_aload_n hX d_LR_view_50 rfl 0 rfl ?_
      refine g_getf (i := 0) (kf := 2) hX (lt_c (by decide)) rfl (lay_LR (AC := AC) (Γ := Γ)) rfl in_LR (by decide) t_100 (Or.inl rfl) rfl d_LR_view_51 ?_
      refine g_iload hX d_LR_view_54 2 rfl ?_
      obtain ⟨q8, h⟩ := h
      refine g_aald (i := 3) 4 hX (lt_c (by decide)) rfl (lay_pa (AC := AC) (Γ := Γ) (σ := σ)) rfl q8 (if_pos (in_lt q8)) d_LR_view_56 ?_
      refine g_getf (i := (4 + 4 * (x4).toNatClampNeg)) (kf := 0) hX (lt_P (in_lt q8)) rfl (lay_p (in_lt q8)) rfl in_P (by decide) t_46 (Or.inl rfl) rfl d_LR_view_57 ?_
      refine g_if_eq (tgt := 66) hX d_LR_view_60 (by decide) (fun q9 => ?_) (fun q9 => ?_)
      · have h := h.1 q9
        refine g_sub [0, 1, 2] rfl ?_
        exact b_LR_view_66 hX hl (fun _ _ _ z => ih _ _ _ z) _ _ _ h
      · have h := h.2 q9
        refine g_iinc (v := x3 + 1) hX d_LR_view_63 1 rfl (congrArg (x3 + ·) (by decide)) (by decide) rfl ?_
        refine g_sub [1, 0, 2] rfl ?_
        exact b_LR_view_66 hX hl (fun _ _ _ z => ih _ _ _ z) _ _ _ h
set_option maxRecDepth 100000 in
set_option maxHeartbeats 4000000 in
theorem c_LR_view {l : Launch} {D : va_G} {AC : Nat → ClassId} {lo : Nat} {Γ : Ev} {x1 : Int32} {x2 : Int32} {σ : St} {post : Int32 → St → Prop} {thr : String → St → Prop} (hl : l.flags = pinnedFlags ++ [noTraceFlag]) (h : wp_LR_view Γ x1 x2 σ post thr) : Ct l y_LR_view hd_LR_view rm_LR_view D AC lo [.ref (Γ.ad 0), .int (x1), .int (x2)] (wσ AC Γ σ) (pI AC Γ post) (tX AC Γ thr) := by
  refine Ct.of (by decide) (Nat.le_of_ble_eq_true rfl) ?_
  intro p e s m args below meth c hadm hX
  unfold wp_LR_view at h
  show G p l e rm_LR_view s m args below meth c 5 D lo (pI AC Γ post) (tX AC Γ thr) (wσ AC Γ (σ)) 1 6 0 [(0, .ref (Γ.ad 0)), (1, .int (x1)), (2, .int (x2))] []
  refine g_iload_n hX d_LR_view_0 rfl 1 rfl ?_
  refine g_if_lt (tgt := 22) hX d_LR_view_1 (by decide) (fun q1 => ?_) (fun q1 => ?_)
  · have h := h.1 q1
    refine g_sub [] rfl ?_
    exact b_LR_view_22 hX hl   _ h
  · have h := h.2 q1
    refine g_iload_n hX d_LR_view_4 rfl 1 rfl ?_
    refine g_aload_n hX d_LR_view_5 rfl 0 rfl ?_
    refine g_getf (i := 0) (kf := 4) hX (lt_c (by decide)) rfl (lay_LR (AC := AC) (Γ := Γ)) rfl in_LR (by decide) t_102 (Or.inl rfl) rfl d_LR_view_6 ?_
    refine g_icmp_gt (tgt := 22) hX d_LR_view_9 (by decide) (fun q2 => ?_) (fun q2 => ?_)
    · have h := h.1 q2
      refine g_sub [] rfl ?_
      exact b_LR_view_22 hX hl   _ h
    · have h := h.2 q2
      refine g_iload_n hX d_LR_view_12 rfl 2 rfl ?_
      refine g_if_lt (tgt := 22) hX d_LR_view_13 (by decide) (fun q3 => ?_) (fun q3 => ?_)
      · have h := h.1 q3
        refine g_sub [] rfl ?_
        exact b_LR_view_22 hX hl   _ h
      · have h := h.2 q3
        refine g_iload_n hX d_LR_view_16 rfl 2 rfl ?_
        refine g_bipush (v := 60) hX d_LR_view_17 (by decide) ?_
        refine g_icmp_le (tgt := 32) hX d_LR_view_19 (by decide) (fun q4 => ?_) (fun q4 => ?_)
        · have h := h.1 q4
          refine g_aload_n hX d_LR_view_32 rfl 0 rfl ?_
          refine g_iload_n hX d_LR_view_33 rfl 1 rfl ?_
          refine g_iload_n hX d_LR_view_34 rfl 2 rfl ?_
          refine g_callV (i := 0) (k := 1) (n := 6) hX (c_LR_lookAt h) hdT_LR_lookAt hdO_LR_lookAt t_1 t_267 t_269 ts_LR_lookAt (lt_c (by decide)) rfl (lay_LR (AC := AC) (Γ := Γ)) rfl ⟨⟨by decide, by decide⟩, np_LR_lookAt⟩ ⟨Nat.le_of_ble_eq_true rfl, Nat.le_of_ble_eq_true rfl⟩ (Nat.le_of_ble_eq_true rfl) d_LR_view_35 rfl ?_ (fun _ _ z => z)
          rintro _ _ ⟨σ6, rfl, rfl, h⟩
          refine g_iconst (v := 0) hX d_LR_view_38 (by decide) ?_
          refine g_istore_n hX d_LR_view_39 rfl (by decide) rfl ?_
          refine g_iconst (v := 0) hX d_LR_view_40 (by decide) ?_
          refine g_istore hX d_LR_view_41 (by decide) rfl ?_
          refine g_sub [2, 1, 0] rfl ?_
          obtain ⟨f10, h⟩ := h
          exact b_LR_view_43 hX hl  f10 _ _ _ h
        · have h := h.2 q4
          refine g_sub [] rfl ?_
          exact b_LR_view_22 hX hl   _ h

def wp_LR_parcel_32 (Γ : Ev) (k4 : Int32 → Int32 → Int32 → St → Prop) (post : Int32 → St → Prop) (thr : String → St → Prop) (x1 : Int32) (x2 : Int32) (x3 : Int32) (σ : St) : Prop := k4 (x1) (x2) ((x3 + 1)) (σ)
def wp_LR_parcel_4 (Γ : Ev)  (post : Int32 → St → Prop) (thr : String → St → Prop) : Nat → Int32 → Int32 → Int32 → St → Prop
  | 0 => fun _ _ _ _ => False
  | fuel + 1 => fun x1 x2 x3 σ => (((80 : Int32) ≤ x3 → post (-1 : Int32) (σ)) ∧ (¬ (80 : Int32) ≤ x3 → (vp_in x3 80 ∧ (((St.I (σ) 1 ((x3).toNatClampNeg)) = 0 → wp_LR_parcel_32 Γ (fun x1 x2 x3 σ => wp_LR_parcel_4 Γ  post thr fuel x1 x2 x3 σ) post thr (x1) (x2) (x3) (σ)) ∧ (¬ (St.I (σ) 1 ((x3).toNatClampNeg)) = 0 → ((¬ x2 = x1 → wp_LR_parcel_32 Γ (fun x1 x2 x3 σ => wp_LR_parcel_4 Γ  post thr fuel x1 x2 x3 σ) post thr (x1) ((x2 + 1)) (x3) (σ)) ∧ (x2 = x1 → post x3 (σ))))))))
def wp_LR_parcel (Γ : Ev) (x1 : Int32) (σ : St) (post : Int32 → St → Prop) (thr : String → St → Prop) : Prop := (∃ f5, wp_LR_parcel_4 Γ  post thr f5 (x1) ((0 : Int32)) ((0 : Int32)) (σ))
abbrev rm_LR_parcel : Room := { frames := 0, cells := 0, slots := 0, locals := 0 }
set_option maxRecDepth 100000 in
set_option maxHeartbeats 4000000 in
theorem b_LR_parcel_32 {p : Program} {l : Launch} {e : Env} {s : State} {m : MethodId} {args : Array Value} {below : List Frame} {meth : Method} {c : Code} {D : va_G} {AC : Nat → ClassId} {lo : Nat} {Γ : Ev} {post : Int32 → St → Prop} {thr : String → St → Prop} (hX : Cx p s m args meth c y_LR_parcel b_LR_parcel 4 (some .int) [] D AC lo) {k4 : Int32 → Int32 → Int32 → St → Prop} (hk4 : ∀ (x1 : Int32) (x2 : Int32) (x3 : Int32) (σ : St), k4 x1 x2 x3 σ → G p l e rm_LR_parcel s m args below meth c 4 D lo (pI AC Γ post) (tX AC Γ thr) (wσ AC Γ (σ)) 0 0 4 [(0, .ref (Γ.ad 0)), (1, .int (x1)), (2, .int (x2)), (3, .int (x3))] []) (x1 : Int32) (x2 : Int32) (x3 : Int32) (σ : St) (h : wp_LR_parcel_32 Γ k4 post thr x1 x2 x3 σ) : G p l e rm_LR_parcel s m args below meth c 4 D lo (pI AC Γ post) (tX AC Γ thr) (wσ AC Γ (σ)) 0 0 32 [(0, .ref (Γ.ad 0)), (1, .int (x1)), (2, .int (x2)), (3, .int (x3))] [] := by
  unfold wp_LR_parcel_32 at h
  refine g_iinc (v := x3 + 1) hX d_LR_parcel_32 3 rfl (congrArg (x3 + ·) (by decide)) (by decide) rfl ?_
  refine g_goto (tgt := 4) hX d_LR_parcel_35 (by decide) ?_
  refine g_sub [1, 2, 3, 0] rfl ?_
  exact hk4 (x1) (x2) ((x3 + 1)) (σ) h
set_option maxRecDepth 100000 in
set_option maxHeartbeats 4000000 in
theorem b_LR_parcel_4 {p : Program} {l : Launch} {e : Env} {s : State} {m : MethodId} {args : Array Value} {below : List Frame} {meth : Method} {c : Code} {D : va_G} {AC : Nat → ClassId} {lo : Nat} {Γ : Ev} {post : Int32 → St → Prop} {thr : String → St → Prop} (hX : Cx p s m args meth c y_LR_parcel b_LR_parcel 4 (some .int) [] D AC lo)   : ∀ (fuel : Nat) (x1 : Int32) (x2 : Int32) (x3 : Int32) (σ : St), wp_LR_parcel_4 Γ  post thr fuel x1 x2 x3 σ → G p l e rm_LR_parcel s m args below meth c 4 D lo (pI AC Γ post) (tX AC Γ thr) (wσ AC Γ (σ)) 0 0 4 [(0, .ref (Γ.ad 0)), (1, .int (x1)), (2, .int (x2)), (3, .int (x3))] [] := by
  intro fuel
  induction fuel with
  | zero => intro x1 x2 x3 σ h; exact False.elim h
  | succ fuel ih =>
    intro x1 x2 x3 σ h
    simp only [wp_LR_parcel_4] at h
    refine g_iload_n hX d_LR_parcel_4 rfl 3 rfl ?_
    refine g_bipush (v := 80) hX d_LR_parcel_5 (by decide) ?_
    refine g_icmp_ge (tgt := 38) hX d_LR_parcel_7 (by decide) (fun q1 => ?_) (fun q1 => ?_)
    · have h := h.1 q1
      refine g_iconst (v := -1) hX d_LR_parcel_38 (by decide) ?_
      exact g_iret hX rfl d_LR_parcel_39 ⟨_, _, rfl, rfl, h⟩
    · have h := h.2 q1
      refine g_aload_n hX d_LR_parcel_10 rfl 0 rfl ?_
      refine g_getf (i := 0) (kf := 2) hX (lt_c (by decide)) rfl (lay_LR (AC := AC) (Γ := Γ)) rfl in_LR (by decide) t_100 (Or.inl rfl) rfl d_LR_parcel_11 ?_
      refine g_iload_n hX d_LR_parcel_14 rfl 3 rfl ?_
      obtain ⟨q2, h⟩ := h
      refine g_aald (i := 3) 4 hX (lt_c (by decide)) rfl (lay_pa (AC := AC) (Γ := Γ) (σ := σ)) rfl q2 (if_pos (in_lt q2)) d_LR_parcel_15 ?_
      refine g_getf (i := (4 + 4 * (x3).toNatClampNeg)) (kf := 0) hX (lt_P (in_lt q2)) rfl (lay_p (in_lt q2)) rfl in_P (by decide) t_46 (Or.inl rfl) rfl d_LR_parcel_16 ?_
      refine g_if_eq (tgt := 32) hX d_LR_parcel_19 (by decide) (fun q3 => ?_) (fun q3 => ?_)
      · have h := h.1 q3
        refine g_sub [0, 1, 2, 3] rfl ?_
        exact b_LR_parcel_32 hX (fun _ _ _ _ z => ih _ _ _ _ z) _ _ _ _ h
      · have h := h.2 q3
        refine g_iload_n hX d_LR_parcel_22 rfl 2 rfl ?_
        refine g_iload_n hX d_LR_parcel_23 rfl 1 rfl ?_
        refine g_icmp_ne (tgt := 29) hX d_LR_parcel_24 (by decide) (fun q4 => ?_) (fun q4 => ?_)
        · have h := h.1 q4
          refine g_iinc (v := x2 + 1) hX d_LR_parcel_29 2 rfl (congrArg (x2 + ·) (by decide)) (by decide) rfl ?_
          refine g_sub [1, 2, 0, 3] rfl ?_
          exact b_LR_parcel_32 hX (fun _ _ _ _ z => ih _ _ _ _ z) _ _ _ _ h
        · have h := h.2 q4
          refine g_iload_n hX d_LR_parcel_27 rfl 3 rfl ?_
          exact g_iret hX rfl d_LR_parcel_28 ⟨_, _, rfl, rfl, h⟩
set_option maxRecDepth 100000 in
set_option maxHeartbeats 4000000 in
theorem c_LR_parcel {l : Launch} {D : va_G} {AC : Nat → ClassId} {lo : Nat} {Γ : Ev} {x1 : Int32} {σ : St} {post : Int32 → St → Prop} {thr : String → St → Prop} (h : wp_LR_parcel Γ x1 σ post thr) : Ct l y_LR_parcel hd_LR_parcel rm_LR_parcel D AC lo [.ref (Γ.ad 0), .int (x1)] (wσ AC Γ σ) (pI AC Γ post) (tX AC Γ thr) := by
  refine Ct.of (by decide) (Nat.le_of_ble_eq_true rfl) ?_
  intro p e s m args below meth c hadm hX
  unfold wp_LR_parcel at h
  show G p l e rm_LR_parcel s m args below meth c 4 D lo (pI AC Γ post) (tX AC Γ thr) (wσ AC Γ (σ)) 0 0 0 [(0, .ref (Γ.ad 0)), (1, .int (x1))] []
  refine g_iconst (v := 0) hX d_LR_parcel_0 (by decide) ?_
  refine g_istore_n hX d_LR_parcel_1 rfl (by decide) rfl ?_
  refine g_iconst (v := 0) hX d_LR_parcel_2 (by decide) ?_
  refine g_istore_n hX d_LR_parcel_3 rfl (by decide) rfl ?_
  refine g_sub [2, 3, 1, 0] rfl ?_
  obtain ⟨f5, h⟩ := h
  exact b_LR_parcel_4 hX  f5 _ _ _ _ h

def wp_LR_area (Γ : Ev) (x1 : Int32) (σ : St) (post : Int64 → St → Prop) (thr : String → St → Prop) : Prop := wp_LR_requireParcel Γ (x1) (σ) (fun σ2 => (vp_in x1 80 ∧ (((St.I (σ2) 1 ((x1).toNatClampNeg)) = 0 → post (0 : Int64) (σ2)) ∧ (¬ (St.I (σ2) 1 ((x1).toNatClampNeg)) = 0 → post (St.L (σ2) 1 ((x1).toNatClampNeg)) (σ2))))) thr
abbrev rm_LR_area : Room := { frames := 7, cells := 1, slots := 6, locals := 120 }
set_option maxRecDepth 100000 in
set_option maxHeartbeats 4000000 in
theorem c_LR_area {l : Launch} {D : va_G} {AC : Nat → ClassId} {lo : Nat} {Γ : Ev} {x1 : Int32} {σ : St} {post : Int64 → St → Prop} {thr : String → St → Prop} (hl : l.flags = pinnedFlags ++ [noTraceFlag]) (h : wp_LR_area Γ x1 σ post thr) : Ct l y_LR_area hd_LR_area rm_LR_area D AC lo [.ref (Γ.ad 0), .int (x1)] (wσ AC Γ σ) (pL AC Γ post) (tX AC Γ thr) := by
  refine Ct.of (by decide) (Nat.le_of_ble_eq_true rfl) ?_
  intro p e s m args below meth c hadm hX
  unfold wp_LR_area at h
  show G p l e rm_LR_area s m args below meth c 3 D lo (pL AC Γ post) (tX AC Γ thr) (wσ AC Γ (σ)) 1 6 0 [(0, .ref (Γ.ad 0)), (1, .int (x1))] []
  refine g_iload_n hX d_LR_area_0 rfl 1 rfl ?_
  refine g_callS (k := 0) (n := 0) hX (c_LR_requireParcel hl h) hdT_LR_requireParcel hdO_LR_requireParcel t_1 t_431 t_432 ⟨⟨by decide, by decide⟩, np_LR_requireParcel⟩ ⟨Nat.le_of_ble_eq_true rfl, Nat.le_of_ble_eq_true rfl⟩ (Nat.le_of_ble_eq_true rfl) d_LR_area_1 rfl ?_ (fun _ _ z => z)
  rintro _ _ ⟨σ2, rfl, rfl, h⟩
  refine g_aload_n hX d_LR_area_4 rfl 0 rfl ?_
  refine g_getf (i := 0) (kf := 2) hX (lt_c (by decide)) rfl (lay_LR (AC := AC) (Γ := Γ)) rfl in_LR (by decide) t_100 (Or.inl rfl) rfl d_LR_area_5 ?_
  refine g_iload_n hX d_LR_area_8 rfl 1 rfl ?_
  obtain ⟨q3, h⟩ := h
  refine g_aald (i := 3) 4 hX (lt_c (by decide)) rfl (lay_pa (AC := AC) (Γ := Γ) (σ := σ2)) rfl q3 (if_pos (in_lt q3)) d_LR_area_9 ?_
  refine g_astore_n hX d_LR_area_10 rfl (by decide) rfl ?_
  refine g_aload_n hX d_LR_area_11 rfl 0 rfl ?_
  refine g_getf (i := (4 + 4 * (x1).toNatClampNeg)) (kf := 0) hX (lt_P (in_lt q3)) rfl (lay_p (in_lt q3)) rfl in_P (by decide) t_46 (Or.inl rfl) rfl d_LR_area_12 ?_
  refine g_if_eq (tgt := 25) hX d_LR_area_15 (by decide) (fun q4 => ?_) (fun q4 => ?_)
  · have h := h.1 q4
    refine g_lconst (v := 0) hX d_LR_area_25 (by decide) ?_
    exact g_lret hX rfl d_LR_area_26 ⟨_, _, rfl, rfl, h⟩
  · have h := h.2 q4
    refine g_aload_n hX d_LR_area_18 rfl 0 rfl ?_
    refine g_getf (i := (4 + 4 * (x1).toNatClampNeg)) (kf := 1) hX (lt_P (in_lt q3)) rfl (lay_p (in_lt q3)) rfl in_P (by decide) t_50 (Or.inl rfl) rfl d_LR_area_19 ?_
    refine g_goto (tgt := 26) hX d_LR_area_22 (by decide) ?_
    exact g_lret hX rfl d_LR_area_26 ⟨_, _, rfl, rfl, h⟩

def wp_LR_share (Γ : Ev) (x1 : Int32) (x2 : Int32) (σ : St) (post : Int64 → St → Prop) (thr : String → St → Prop) : Prop := wp_LR_requireParcel Γ (x1) (σ) (fun σ2 => wp_LR_requirePerson Γ (x2) (σ2) (fun σ4 => (vp_in x1 80 ∧ (((St.I (σ4) 1 ((x1).toNatClampNeg)) = 0 → post (0 : Int64) (σ4)) ∧ (¬ (St.I (σ4) 1 ((x1).toNatClampNeg)) = 0 → (vp_in x2 8 ∧ post (St.L (σ4) (100 + (x1).toNatClampNeg) (x2).toNatClampNeg) (σ4)))))) thr) thr
abbrev rm_LR_share : Room := { frames := 7, cells := 2, slots := 12, locals := 120 }
set_option maxRecDepth 100000 in
set_option maxHeartbeats 4000000 in
theorem c_LR_share {l : Launch} {D : va_G} {AC : Nat → ClassId} {lo : Nat} {Γ : Ev} {x1 : Int32} {x2 : Int32} {σ : St} {post : Int64 → St → Prop} {thr : String → St → Prop} (hl : l.flags = pinnedFlags ++ [noTraceFlag]) (h : wp_LR_share Γ x1 x2 σ post thr) : Ct l y_LR_share hd_LR_share rm_LR_share D AC lo [.ref (Γ.ad 0), .int (x1), .int (x2)] (wσ AC Γ σ) (pL AC Γ post) (tX AC Γ thr) := by
  refine Ct.of (by decide) (Nat.le_of_ble_eq_true rfl) ?_
  intro p e s m args below meth c hadm hX
  unfold wp_LR_share at h
  show G p l e rm_LR_share s m args below meth c 4 D lo (pL AC Γ post) (tX AC Γ thr) (wσ AC Γ (σ)) 2 12 0 [(0, .ref (Γ.ad 0)), (1, .int (x1)), (2, .int (x2))] []
  refine g_iload_n hX d_LR_share_0 rfl 1 rfl ?_
  refine g_callS (k := 1) (n := 6) hX (c_LR_requireParcel hl h) hdT_LR_requireParcel hdO_LR_requireParcel t_1 t_431 t_432 ⟨⟨by decide, by decide⟩, np_LR_requireParcel⟩ ⟨Nat.le_of_ble_eq_true rfl, Nat.le_of_ble_eq_true rfl⟩ (Nat.le_of_ble_eq_true rfl) d_LR_share_1 rfl ?_ (fun _ _ z => z)
  rintro _ _ ⟨σ2, rfl, rfl, h⟩
  refine g_iload_n hX d_LR_share_4 rfl 2 rfl ?_
  refine g_callS (k := 0) (n := 0) hX (c_LR_requirePerson hl h) hdT_LR_requirePerson hdO_LR_requirePerson t_1 t_199 t_200 ⟨⟨by decide, by decide⟩, np_LR_requirePerson⟩ ⟨Nat.le_of_ble_eq_true rfl, Nat.le_of_ble_eq_true rfl⟩ (Nat.le_of_ble_eq_true rfl) d_LR_share_5 rfl ?_ (fun _ _ z => z)
  rintro _ _ ⟨σ4, rfl, rfl, h⟩
  refine g_aload_n hX d_LR_share_8 rfl 0 rfl ?_
  refine g_getf (i := 0) (kf := 2) hX (lt_c (by decide)) rfl (lay_LR (AC := AC) (Γ := Γ)) rfl in_LR (by decide) t_100 (Or.inl rfl) rfl d_LR_share_9 ?_
  refine g_iload_n hX d_LR_share_12 rfl 1 rfl ?_
  obtain ⟨q5, h⟩ := h
  refine g_aald (i := 3) 4 hX (lt_c (by decide)) rfl (lay_pa (AC := AC) (Γ := Γ) (σ := σ4)) rfl q5 (if_pos (in_lt q5)) d_LR_share_13 ?_
  refine g_astore_n hX d_LR_share_14 rfl (by decide) rfl ?_
  refine g_aload_n hX d_LR_share_15 rfl 0 rfl ?_
  refine g_getf (i := (4 + 4 * (x1).toNatClampNeg)) (kf := 0) hX (lt_P (in_lt q5)) rfl (lay_p (in_lt q5)) rfl in_P (by decide) t_46 (Or.inl rfl) rfl d_LR_share_16 ?_
  refine g_if_eq (tgt := 31) hX d_LR_share_19 (by decide) (fun q6 => ?_) (fun q6 => ?_)
  · have h := h.1 q6
    refine g_lconst (v := 0) hX d_LR_share_31 (by decide) ?_
    exact g_lret hX rfl d_LR_share_32 ⟨_, _, rfl, rfl, h⟩
  · have h := h.2 q6
    refine g_aload_n hX d_LR_share_22 rfl 0 rfl ?_
    refine g_getf (i := (4 + 4 * (x1).toNatClampNeg)) (kf := 2) hX (lt_P (in_lt q5)) rfl (lay_p (in_lt q5)) rfl in_P (by decide) t_53 (Or.inl rfl) rfl d_LR_share_23 ?_
    refine g_iload_n hX d_LR_share_26 rfl 3 rfl ?_
    obtain ⟨q7, h⟩ := h
    refine g_lald (i := (5 + 4 * (x1).toNatClampNeg)) hX (lt_sh (in_lt q5)) rfl (lay_sh (in_lt q5)) q7 d_LR_share_27 ?_
    refine g_goto (tgt := 32) hX d_LR_share_28 (by decide) ?_
    exact g_lret hX rfl d_LR_share_32 ⟨_, _, rfl, rfl, h⟩

def wp_LR_mortgage (Γ : Ev) (x1 : Int32) (x2 : Int32) (x3 : Int32) (σ : St) (post : Int32 → St → Prop) (thr : String → St → Prop) : Prop := wp_LR_requireParcel Γ (x1) (σ) (fun σ2 => (vp_in x1 80 ∧ (((St.I (σ2) 1 ((x1).toNatClampNeg)) = 0 → post (-1 : Int32) (σ2)) ∧ (¬ (St.I (σ2) 1 ((x1).toNatClampNeg)) = 0 → ((x2 < (1 : Int32) → post (-1 : Int32) (σ2)) ∧ (¬ x2 < (1 : Int32) → ((x2 ≤ (St.I (σ2) 2 ((x1).toNatClampNeg)) → ((¬ x3 = 0 → ((¬ x3 = (1 : Int32) → post (-1 : Int32) (σ2)) ∧ (x3 = (1 : Int32) → (vp_in (x2 - (1 : Int32)) 4 ∧ post (St.I (σ2) (200 + (x1).toNatClampNeg) ((x2 - (1 : Int32))).toNatClampNeg) (σ2))))) ∧ (x3 = 0 → (vp_in (x2 - (1 : Int32)) 4 ∧ post (St.I (σ2) (100 + (x1).toNatClampNeg) ((x2 - (1 : Int32))).toNatClampNeg) (σ2))))) ∧ (¬ x2 ≤ (St.I (σ2) 2 ((x1).toNatClampNeg)) → post (-1 : Int32) (σ2))))))))) thr
abbrev rm_LR_mortgage : Room := { frames := 7, cells := 1, slots := 6, locals := 120 }
set_option maxRecDepth 100000 in
set_option maxHeartbeats 4000000 in
theorem c_LR_mortgage {l : Launch} {D : va_G} {AC : Nat → ClassId} {lo : Nat} {Γ : Ev} {x1 : Int32} {x2 : Int32} {x3 : Int32} {σ : St} {post : Int32 → St → Prop} {thr : String → St → Prop} (hl : l.flags = pinnedFlags ++ [noTraceFlag]) (h : wp_LR_mortgage Γ x1 x2 x3 σ post thr) : Ct l y_LR_mortgage hd_LR_mortgage rm_LR_mortgage D AC lo [.ref (Γ.ad 0), .int (x1), .int (x2), .int (x3)] (wσ AC Γ σ) (pI AC Γ post) (tX AC Γ thr) := by
  refine Ct.of (by decide) (Nat.le_of_ble_eq_true rfl) ?_
  intro p e s m args below meth c hadm hX
  unfold wp_LR_mortgage at h
  show G p l e rm_LR_mortgage s m args below meth c 5 D lo (pI AC Γ post) (tX AC Γ thr) (wσ AC Γ (σ)) 1 6 0 [(0, .ref (Γ.ad 0)), (1, .int (x1)), (2, .int (x2)), (3, .int (x3))] []
  refine g_iload_n hX d_LR_mortgage_0 rfl 1 rfl ?_
  refine g_callS (k := 0) (n := 0) hX (c_LR_requireParcel hl h) hdT_LR_requireParcel hdO_LR_requireParcel t_1 t_431 t_432 ⟨⟨by decide, by decide⟩, np_LR_requireParcel⟩ ⟨Nat.le_of_ble_eq_true rfl, Nat.le_of_ble_eq_true rfl⟩ (Nat.le_of_ble_eq_true rfl) d_LR_mortgage_1 rfl ?_ (fun _ _ z => z)
  rintro _ _ ⟨σ2, rfl, rfl, h⟩
  refine g_aload_n hX d_LR_mortgage_4 rfl 0 rfl ?_
  refine g_getf (i := 0) (kf := 2) hX (lt_c (by decide)) rfl (lay_LR (AC := AC) (Γ := Γ)) rfl in_LR (by decide) t_100 (Or.inl rfl) rfl d_LR_mortgage_5 ?_
  refine g_iload_n hX d_LR_mortgage_8 rfl 1 rfl ?_
  obtain ⟨q3, h⟩ := h
  refine g_aald (i := 3) 4 hX (lt_c (by decide)) rfl (lay_pa (AC := AC) (Γ := Γ) (σ := σ2)) rfl q3 (if_pos (in_lt q3)) d_LR_mortgage_9 ?_
  refine g_astore hX d_LR_mortgage_10 (by decide) rfl ?_
  refine g_aload hX d_LR_mortgage_12 0 rfl ?_
  refine g_getf (i := (4 + 4 * (x1).toNatClampNeg)) (kf := 0) hX (lt_P (in_lt q3)) rfl (lay_p (in_lt q3)) rfl in_P (by decide) t_46 (Or.inl rfl) rfl d_LR_mortgage_14 ?_
  refine g_if_eq (tgt := 34) hX d_LR_mortgage_17 (by decide) (fun q4 => ?_) (fun q4 => ?_)
  · have h := h.1 q4
    refine g_iconst (v := -1) hX d_LR_mortgage_34 (by decide) ?_
    exact g_iret hX rfl d_LR_mortgage_35 ⟨_, _, rfl, rfl, h⟩
  · have h := h.2 q4
    refine g_iload_n hX d_LR_mortgage_20 rfl 3 rfl ?_
    refine g_iconst (v := 1) hX d_LR_mortgage_21 (by decide) ?_
    refine g_icmp_lt (tgt := 34) hX d_LR_mortgage_22 (by decide) (fun q5 => ?_) (fun q5 => ?_)
    · have h := h.1 q5
      refine g_iconst (v := -1) hX d_LR_mortgage_34 (by decide) ?_
      exact g_iret hX rfl d_LR_mortgage_35 ⟨_, _, rfl, rfl, h⟩
    · have h := h.2 q5
      refine g_iload_n hX d_LR_mortgage_25 rfl 3 rfl ?_
      refine g_aload hX d_LR_mortgage_26 0 rfl ?_
      refine g_getf (i := (4 + 4 * (x1).toNatClampNeg)) (kf := 3) hX (lt_P (in_lt q3)) rfl (lay_p (in_lt q3)) rfl in_P (by decide) t_58 (Or.inl rfl) rfl d_LR_mortgage_28 ?_
      refine g_icmp_le (tgt := 36) hX d_LR_mortgage_31 (by decide) (fun q6 => ?_) (fun q6 => ?_)
      · have h := h.1 q6
        refine g_iload_n hX d_LR_mortgage_36 rfl 4 rfl ?_
        refine g_if_ne (tgt := 50) hX d_LR_mortgage_37 (by decide) (fun q7 => ?_) (fun q7 => ?_)
        · have h := h.1 q7
          refine g_iload_n hX d_LR_mortgage_50 rfl 4 rfl ?_
          refine g_iconst (v := 1) hX d_LR_mortgage_51 (by decide) ?_
          refine g_icmp_ne (tgt := 67) hX d_LR_mortgage_52 (by decide) (fun q8 => ?_) (fun q8 => ?_)
          · have h := h.1 q8
            refine g_iconst (v := -1) hX d_LR_mortgage_67 (by decide) ?_
            exact g_iret hX rfl d_LR_mortgage_68 ⟨_, _, rfl, rfl, h⟩
          · have h := h.2 q8
            refine g_aload hX d_LR_mortgage_55 0 rfl ?_
            refine g_getf (i := (4 + 4 * (x1).toNatClampNeg)) (kf := 5) hX (lt_P (in_lt q3)) rfl (lay_p (in_lt q3)) rfl in_P (by decide) t_64 (Or.inl rfl) rfl d_LR_mortgage_57 ?_
            refine g_iload_n hX d_LR_mortgage_60 rfl 3 rfl ?_
            refine g_iconst (v := 1) hX d_LR_mortgage_61 (by decide) ?_
            refine g_isub hX d_LR_mortgage_62 ?_
            obtain ⟨q9, h⟩ := h
            refine g_iald (i := (7 + 4 * (x1).toNatClampNeg)) hX (lt_am (in_lt q3)) rfl (lay_am (in_lt q3)) q9 d_LR_mortgage_63 ?_
            refine g_goto (tgt := 68) hX d_LR_mortgage_64 (by decide) ?_
            exact g_iret hX rfl d_LR_mortgage_68 ⟨_, _, rfl, rfl, h⟩
        · have h := h.2 q7
          refine g_aload hX d_LR_mortgage_40 0 rfl ?_
          refine g_getf (i := (4 + 4 * (x1).toNatClampNeg)) (kf := 4) hX (lt_P (in_lt q3)) rfl (lay_p (in_lt q3)) rfl in_P (by decide) t_61 (Or.inl rfl) rfl d_LR_mortgage_42 ?_
          refine g_iload_n hX d_LR_mortgage_45 rfl 3 rfl ?_
          refine g_iconst (v := 1) hX d_LR_mortgage_46 (by decide) ?_
          refine g_isub hX d_LR_mortgage_47 ?_
          obtain ⟨q10, h⟩ := h
          refine g_iald (i := (6 + 4 * (x1).toNatClampNeg)) hX (lt_cr (in_lt q3)) rfl (lay_cr (in_lt q3)) q10 d_LR_mortgage_48 ?_
          exact g_iret hX rfl d_LR_mortgage_49 ⟨_, _, rfl, rfl, h⟩
      · have h := h.2 q6
        refine g_iconst (v := -1) hX d_LR_mortgage_34 (by decide) ?_
        exact g_iret hX rfl d_LR_mortgage_35 ⟨_, _, rfl, rfl, h⟩

def wp_LR_cautions (Γ : Ev) (x1 : Int32) (σ : St) (post : Int32 → St → Prop) (thr : String → St → Prop) : Prop := wp_LR_requireParcel Γ (x1) (σ) (fun σ2 => (vp_in x1 80 ∧ (((St.I (σ2) 1 ((x1).toNatClampNeg)) = 0 → post (0 : Int32) (σ2)) ∧ (¬ (St.I (σ2) 1 ((x1).toNatClampNeg)) = 0 → post (St.I (σ2) 3 ((x1).toNatClampNeg)) (σ2))))) thr
abbrev rm_LR_cautions : Room := { frames := 7, cells := 1, slots := 6, locals := 120 }
set_option maxRecDepth 100000 in
set_option maxHeartbeats 4000000 in
theorem c_LR_cautions {l : Launch} {D : va_G} {AC : Nat → ClassId} {lo : Nat} {Γ : Ev} {x1 : Int32} {σ : St} {post : Int32 → St → Prop} {thr : String → St → Prop} (hl : l.flags = pinnedFlags ++ [noTraceFlag]) (h : wp_LR_cautions Γ x1 σ post thr) : Ct l y_LR_cautions hd_LR_cautions rm_LR_cautions D AC lo [.ref (Γ.ad 0), .int (x1)] (wσ AC Γ σ) (pI AC Γ post) (tX AC Γ thr) := by
  refine Ct.of (by decide) (Nat.le_of_ble_eq_true rfl) ?_
  intro p e s m args below meth c hadm hX
  unfold wp_LR_cautions at h
  show G p l e rm_LR_cautions s m args below meth c 3 D lo (pI AC Γ post) (tX AC Γ thr) (wσ AC Γ (σ)) 1 6 0 [(0, .ref (Γ.ad 0)), (1, .int (x1))] []
  refine g_iload_n hX d_LR_cautions_0 rfl 1 rfl ?_
  refine g_callS (k := 0) (n := 0) hX (c_LR_requireParcel hl h) hdT_LR_requireParcel hdO_LR_requireParcel t_1 t_431 t_432 ⟨⟨by decide, by decide⟩, np_LR_requireParcel⟩ ⟨Nat.le_of_ble_eq_true rfl, Nat.le_of_ble_eq_true rfl⟩ (Nat.le_of_ble_eq_true rfl) d_LR_cautions_1 rfl ?_ (fun _ _ z => z)
  rintro _ _ ⟨σ2, rfl, rfl, h⟩
  refine g_aload_n hX d_LR_cautions_4 rfl 0 rfl ?_
  refine g_getf (i := 0) (kf := 2) hX (lt_c (by decide)) rfl (lay_LR (AC := AC) (Γ := Γ)) rfl in_LR (by decide) t_100 (Or.inl rfl) rfl d_LR_cautions_5 ?_
  refine g_iload_n hX d_LR_cautions_8 rfl 1 rfl ?_
  obtain ⟨q3, h⟩ := h
  refine g_aald (i := 3) 4 hX (lt_c (by decide)) rfl (lay_pa (AC := AC) (Γ := Γ) (σ := σ2)) rfl q3 (if_pos (in_lt q3)) d_LR_cautions_9 ?_
  refine g_astore_n hX d_LR_cautions_10 rfl (by decide) rfl ?_
  refine g_aload_n hX d_LR_cautions_11 rfl 0 rfl ?_
  refine g_getf (i := (4 + 4 * (x1).toNatClampNeg)) (kf := 0) hX (lt_P (in_lt q3)) rfl (lay_p (in_lt q3)) rfl in_P (by decide) t_46 (Or.inl rfl) rfl d_LR_cautions_12 ?_
  refine g_if_eq (tgt := 25) hX d_LR_cautions_15 (by decide) (fun q4 => ?_) (fun q4 => ?_)
  · have h := h.1 q4
    refine g_iconst (v := 0) hX d_LR_cautions_25 (by decide) ?_
    exact g_iret hX rfl d_LR_cautions_26 ⟨_, _, rfl, rfl, h⟩
  · have h := h.2 q4
    refine g_aload_n hX d_LR_cautions_18 rfl 0 rfl ?_
    refine g_getf (i := (4 + 4 * (x1).toNatClampNeg)) (kf := 6) hX (lt_P (in_lt q3)) rfl (lay_p (in_lt q3)) rfl in_P (by decide) t_69 (Or.inl rfl) rfl d_LR_cautions_19 ?_
    refine g_goto (tgt := 26) hX d_LR_cautions_22 (by decide) ?_
    exact g_iret hX rfl d_LR_cautions_26 ⟨_, _, rfl, rfl, h⟩

def wp_LR_origin (Γ : Ev) (x1 : Int32) (x2 : Int32) (σ : St) (post : Int32 → St → Prop) (thr : String → St → Prop) : Prop := wp_LR_requireParcel Γ (x1) (σ) (fun σ2 => (vp_in x1 80 ∧ ((¬ x2 = 0 → ((¬ x2 = (1 : Int32) → post (-1 : Int32) (σ2)) ∧ (x2 = (1 : Int32) → post (St.I (σ2) 5 ((x1).toNatClampNeg)) (σ2)))) ∧ (x2 = 0 → post (St.I (σ2) 4 ((x1).toNatClampNeg)) (σ2))))) thr
abbrev rm_LR_origin : Room := { frames := 7, cells := 1, slots := 6, locals := 120 }
set_option maxRecDepth 100000 in
set_option maxHeartbeats 4000000 in
theorem c_LR_origin {l : Launch} {D : va_G} {AC : Nat → ClassId} {lo : Nat} {Γ : Ev} {x1 : Int32} {x2 : Int32} {σ : St} {post : Int32 → St → Prop} {thr : String → St → Prop} (hl : l.flags = pinnedFlags ++ [noTraceFlag]) (h : wp_LR_origin Γ x1 x2 σ post thr) : Ct l y_LR_origin hd_LR_origin rm_LR_origin D AC lo [.ref (Γ.ad 0), .int (x1), .int (x2)] (wσ AC Γ σ) (pI AC Γ post) (tX AC Γ thr) := by
  refine Ct.of (by decide) (Nat.le_of_ble_eq_true rfl) ?_
  intro p e s m args below meth c hadm hX
  unfold wp_LR_origin at h
  show G p l e rm_LR_origin s m args below meth c 4 D lo (pI AC Γ post) (tX AC Γ thr) (wσ AC Γ (σ)) 1 6 0 [(0, .ref (Γ.ad 0)), (1, .int (x1)), (2, .int (x2))] []
  refine g_iload_n hX d_LR_origin_0 rfl 1 rfl ?_
  refine g_callS (k := 0) (n := 0) hX (c_LR_requireParcel hl h) hdT_LR_requireParcel hdO_LR_requireParcel t_1 t_431 t_432 ⟨⟨by decide, by decide⟩, np_LR_requireParcel⟩ ⟨Nat.le_of_ble_eq_true rfl, Nat.le_of_ble_eq_true rfl⟩ (Nat.le_of_ble_eq_true rfl) d_LR_origin_1 rfl ?_ (fun _ _ z => z)
  rintro _ _ ⟨σ2, rfl, rfl, h⟩
  refine g_aload_n hX d_LR_origin_4 rfl 0 rfl ?_
  refine g_getf (i := 0) (kf := 2) hX (lt_c (by decide)) rfl (lay_LR (AC := AC) (Γ := Γ)) rfl in_LR (by decide) t_100 (Or.inl rfl) rfl d_LR_origin_5 ?_
  refine g_iload_n hX d_LR_origin_8 rfl 1 rfl ?_
  obtain ⟨q3, h⟩ := h
  refine g_aald (i := 3) 4 hX (lt_c (by decide)) rfl (lay_pa (AC := AC) (Γ := Γ) (σ := σ2)) rfl q3 (if_pos (in_lt q3)) d_LR_origin_9 ?_
  refine g_astore_n hX d_LR_origin_10 rfl (by decide) rfl ?_
  refine g_iload_n hX d_LR_origin_11 rfl 3 rfl ?_
  refine g_if_ne (tgt := 20) hX d_LR_origin_12 (by decide) (fun q4 => ?_) (fun q4 => ?_)
  · have h := h.1 q4
    refine g_iload_n hX d_LR_origin_20 rfl 3 rfl ?_
    refine g_iconst (v := 1) hX d_LR_origin_21 (by decide) ?_
    refine g_icmp_ne (tgt := 32) hX d_LR_origin_22 (by decide) (fun q5 => ?_) (fun q5 => ?_)
    · have h := h.1 q5
      refine g_iconst (v := -1) hX d_LR_origin_32 (by decide) ?_
      exact g_iret hX rfl d_LR_origin_33 ⟨_, _, rfl, rfl, h⟩
    · have h := h.2 q5
      refine g_aload_n hX d_LR_origin_25 rfl 0 rfl ?_
      refine g_getf (i := (4 + 4 * (x1).toNatClampNeg)) (kf := 8) hX (lt_P (in_lt q3)) rfl (lay_p (in_lt q3)) rfl in_P (by decide) t_76 (Or.inl rfl) rfl d_LR_origin_26 ?_
      refine g_goto (tgt := 33) hX d_LR_origin_29 (by decide) ?_
      exact g_iret hX rfl d_LR_origin_33 ⟨_, _, rfl, rfl, h⟩
  · have h := h.2 q4
    refine g_aload_n hX d_LR_origin_15 rfl 0 rfl ?_
    refine g_getf (i := (4 + 4 * (x1).toNatClampNeg)) (kf := 7) hX (lt_P (in_lt q3)) rfl (lay_p (in_lt q3)) rfl in_P (by decide) t_73 (Or.inl rfl) rfl d_LR_origin_16 ?_
    exact g_iret hX rfl d_LR_origin_19 ⟨_, _, rfl, rfl, h⟩

def wp_LR_holding_57 (Γ : Ev) (k9 : Int32 → Int32 → Int32 → Int32 → St → Prop) (post : Int32 → St → Prop) (thr : String → St → Prop) (x1 : Int32) (x2 : Int32) (x3 : Int32) (x4 : Int32) (σ : St) : Prop := k9 (x1) (x2) (x3) ((x4 + 1)) (σ)
def wp_LR_holding_9 (Γ : Ev)  (post : Int32 → St → Prop) (thr : String → St → Prop) : Nat → Int32 → Int32 → Int32 → Int32 → St → Prop
  | 0 => fun _ _ _ _ _ => False
  | fuel + 1 => fun x1 x2 x3 x4 σ => (((80 : Int32) ≤ x4 → post (-1 : Int32) (σ)) ∧ (¬ (80 : Int32) ≤ x4 → (vp_in x4 80 ∧ (((St.I (σ) 1 ((x4).toNatClampNeg)) = 0 → wp_LR_holding_57 Γ (fun x1 x2 x3 x4 σ => wp_LR_holding_9 Γ  post thr fuel x1 x2 x3 x4 σ) post thr (x1) (x2) (x3) (x4) (σ)) ∧ (¬ (St.I (σ) 1 ((x4).toNatClampNeg)) = 0 → (vp_in x4 80 ∧ (vp_in x1 8 ∧ (((lg_cmp (St.L (σ) (100 + (x4).toNatClampNeg) (x1).toNatClampNeg) (0 : Int64)) = 0 → wp_LR_holding_57 Γ (fun x1 x2 x3 x4 σ => wp_LR_holding_9 Γ  post thr fuel x1 x2 x3 x4 σ) post thr (x1) (x2) (x3) (x4) (σ)) ∧ (¬ (lg_cmp (St.L (σ) (100 + (x4).toNatClampNeg) (x1).toNatClampNeg) (0 : Int64)) = 0 → ((¬ x3 = x2 → wp_LR_holding_57 Γ (fun x1 x2 x3 x4 σ => wp_LR_holding_9 Γ  post thr fuel x1 x2 x3 x4 σ) post thr (x1) (x2) ((x3 + 1)) (x4) (σ)) ∧ (x3 = x2 → post x4 (σ))))))))))))
def wp_LR_holding (Γ : Ev) (x1 : Int32) (x2 : Int32) (σ : St) (post : Int32 → St → Prop) (thr : String → St → Prop) : Prop := wp_LR_requirePerson Γ (x1) (σ) (fun σ2 => (∃ f10, wp_LR_holding_9 Γ  post thr f10 (x1) (x2) ((0 : Int32)) ((0 : Int32)) (σ2))) thr
abbrev rm_LR_holding : Room := { frames := 7, cells := 1, slots := 6, locals := 120 }
set_option maxRecDepth 100000 in
set_option maxHeartbeats 4000000 in
theorem b_LR_holding_57 {p : Program} {l : Launch} {e : Env} {s : State} {m : MethodId} {args : Array Value} {below : List Frame} {meth : Method} {c : Code} {D : va_G} {AC : Nat → ClassId} {lo : Nat} {Γ : Ev} {post : Int32 → St → Prop} {thr : String → St → Prop} (hX : Cx p s m args meth c y_LR_holding b_LR_holding 5 (some .int) [] D AC lo) (hl : l.flags = pinnedFlags ++ [noTraceFlag]) {k9 : Int32 → Int32 → Int32 → Int32 → St → Prop} (hk9 : ∀ (x1 : Int32) (x2 : Int32) (x3 : Int32) (x4 : Int32) (σ : St), k9 x1 x2 x3 x4 σ → G p l e rm_LR_holding s m args below meth c 5 D lo (pI AC Γ post) (tX AC Γ thr) (wσ AC Γ (σ)) 0 0 9 [(0, .ref (Γ.ad 0)), (1, .int (x1)), (2, .int (x2)), (3, .int (x3)), (4, .int (x4))] []) (x1 : Int32) (x2 : Int32) (x3 : Int32) (x4 : Int32) (σ : St) (h : wp_LR_holding_57 Γ k9 post thr x1 x2 x3 x4 σ) : G p l e rm_LR_holding s m args below meth c 5 D lo (pI AC Γ post) (tX AC Γ thr) (wσ AC Γ (σ)) 0 0 57 [(0, .ref (Γ.ad 0)), (1, .int (x1)), (2, .int (x2)), (3, .int (x3)), (4, .int (x4))] [] := by
  unfold wp_LR_holding_57 at h
  refine g_iinc (v := x4 + 1) hX d_LR_holding_57 4 rfl (congrArg (x4 + ·) (by decide)) (by decide) rfl ?_
  refine g_goto (tgt := 9) hX d_LR_holding_60 (by decide) ?_
  refine g_sub [1, 2, 3, 4, 0] rfl ?_
  exact hk9 (x1) (x2) (x3) ((x4 + 1)) (σ) h
set_option maxRecDepth 100000 in
set_option maxHeartbeats 4000000 in
theorem b_LR_holding_9 {p : Program} {l : Launch} {e : Env} {s : State} {m : MethodId} {args : Array Value} {below : List Frame} {meth : Method} {c : Code} {D : va_G} {AC : Nat → ClassId} {lo : Nat} {Γ : Ev} {post : Int32 → St → Prop} {thr : String → St → Prop} (hX : Cx p s m args meth c y_LR_holding b_LR_holding 5 (some .int) [] D AC lo) (hl : l.flags = pinnedFlags ++ [noTraceFlag])   : ∀ (fuel : Nat) (x1 : Int32) (x2 : Int32) (x3 : Int32) (x4 : Int32) (σ : St), wp_LR_holding_9 Γ  post thr fuel x1 x2 x3 x4 σ → G p l e rm_LR_holding s m args below meth c 5 D lo (pI AC Γ post) (tX AC Γ thr) (wσ AC Γ (σ)) 0 0 9 [(0, .ref (Γ.ad 0)), (1, .int (x1)), (2, .int (x2)), (3, .int (x3)), (4, .int (x4))] [] := by
  intro fuel
  induction fuel with
  | zero => intro x1 x2 x3 x4 σ h; exact False.elim h
  | succ fuel ih =>
    intro x1 x2 x3 x4 σ h
    simp only [wp_LR_holding_9] at h
    refine g_iload hX d_LR_holding_9 4 rfl ?_
    refine g_bipush (v := 80) hX d_LR_holding_11 (by decide) ?_
    refine g_icmp_ge (tgt := 63) hX d_LR_holding_13 (by decide) (fun q3 => ?_) (fun q3 => ?_)
    · have h := h.1 q3
      refine g_iconst (v := -1) hX d_LR_holding_63 (by decide) ?_
      exact g_iret hX rfl d_LR_holding_64 ⟨_, _, rfl, rfl, h⟩
    · have h := h.2 q3
      refine g_aload_n hX d_LR_holding_16 rfl 0 rfl ?_
      refine g_getf (i := 0) (kf := 2) hX (lt_c (by decide)) rfl (lay_LR (AC := AC) (Γ := Γ)) rfl in_LR (by decide) t_100 (Or.inl rfl) rfl d_LR_holding_17 ?_
      refine g_iload hX d_LR_holding_20 4 rfl ?_
      obtain ⟨q4, h⟩ := h
      refine g_aald (i := 3) 4 hX (lt_c (by decide)) rfl (lay_pa (AC := AC) (Γ := Γ) (σ := σ)) rfl q4 (if_pos (in_lt q4)) d_LR_holding_22 ?_
      refine g_getf (i := (4 + 4 * (x4).toNatClampNeg)) (kf := 0) hX (lt_P (in_lt q4)) rfl (lay_p (in_lt q4)) rfl in_P (by decide) t_46 (Or.inl rfl) rfl d_LR_holding_23 ?_
      refine g_if_eq (tgt := 57) hX d_LR_holding_26 (by decide) (fun q5 => ?_) (fun q5 => ?_)
      · have h := h.1 q5
        refine g_sub [0, 1, 2, 3, 4] rfl ?_
        exact b_LR_holding_57 hX hl (fun _ _ _ _ _ z => ih _ _ _ _ _ z) _ _ _ _ _ h
      · have h := h.2 q5
        refine g_aload_n hX d_LR_holding_29 rfl 0 rfl ?_
        refine g_getf (i := 0) (kf := 2) hX (lt_c (by decide)) rfl (lay_LR (AC := AC) (Γ := Γ)) rfl in_LR (by decide) t_100 (Or.inl rfl) rfl d_LR_holding_30 ?_
        refine g_iload hX d_LR_holding_33 4 rfl ?_
        obtain ⟨q6, h⟩ := h
        refine g_aald (i := 3) 4 hX (lt_c (by decide)) rfl (lay_pa (AC := AC) (Γ := Γ) (σ := σ)) rfl q6 (if_pos (in_lt q6)) d_LR_holding_35 ?_
        refine g_getf (i := (4 + 4 * (x4).toNatClampNeg)) (kf := 2) hX (lt_P (in_lt q6)) rfl (lay_p (in_lt q6)) rfl in_P (by decide) t_53 (Or.inl rfl) rfl d_LR_holding_36 ?_
        refine g_iload_n hX d_LR_holding_39 rfl 1 rfl ?_
        obtain ⟨q7, h⟩ := h
        refine g_lald (i := (5 + 4 * (x4).toNatClampNeg)) hX (lt_sh (in_lt q6)) rfl (lay_sh (in_lt q6)) q7 d_LR_holding_40 ?_
        refine g_lconst (v := 0) hX d_LR_holding_41 (by decide) ?_
        refine g_lcmp hX d_LR_holding_42 ?_
        refine g_if_eq (tgt := 57) hX d_LR_holding_43 (by decide) (fun q8 => ?_) (fun q8 => ?_)
        · have h := h.1 q8
          refine g_sub [0, 1, 2, 3, 4] rfl ?_
          exact b_LR_holding_57 hX hl (fun _ _ _ _ _ z => ih _ _ _ _ _ z) _ _ _ _ _ h
        · have h := h.2 q8
          refine g_iload_n hX d_LR_holding_46 rfl 3 rfl ?_
          refine g_iload_n hX d_LR_holding_47 rfl 2 rfl ?_
          refine g_icmp_ne (tgt := 54) hX d_LR_holding_48 (by decide) (fun q9 => ?_) (fun q9 => ?_)
          · have h := h.1 q9
            refine g_iinc (v := x3 + 1) hX d_LR_holding_54 3 rfl (congrArg (x3 + ·) (by decide)) (by decide) rfl ?_
            refine g_sub [1, 2, 3, 0, 4] rfl ?_
            exact b_LR_holding_57 hX hl (fun _ _ _ _ _ z => ih _ _ _ _ _ z) _ _ _ _ _ h
          · have h := h.2 q9
            refine g_iload hX d_LR_holding_51 4 rfl ?_
            exact g_iret hX rfl d_LR_holding_53 ⟨_, _, rfl, rfl, h⟩
set_option maxRecDepth 100000 in
set_option maxHeartbeats 4000000 in
theorem c_LR_holding {l : Launch} {D : va_G} {AC : Nat → ClassId} {lo : Nat} {Γ : Ev} {x1 : Int32} {x2 : Int32} {σ : St} {post : Int32 → St → Prop} {thr : String → St → Prop} (hl : l.flags = pinnedFlags ++ [noTraceFlag]) (h : wp_LR_holding Γ x1 x2 σ post thr) : Ct l y_LR_holding hd_LR_holding rm_LR_holding D AC lo [.ref (Γ.ad 0), .int (x1), .int (x2)] (wσ AC Γ σ) (pI AC Γ post) (tX AC Γ thr) := by
  refine Ct.of (by decide) (Nat.le_of_ble_eq_true rfl) ?_
  intro p e s m args below meth c hadm hX
  unfold wp_LR_holding at h
  show G p l e rm_LR_holding s m args below meth c 5 D lo (pI AC Γ post) (tX AC Γ thr) (wσ AC Γ (σ)) 1 6 0 [(0, .ref (Γ.ad 0)), (1, .int (x1)), (2, .int (x2))] []
  refine g_iload_n hX d_LR_holding_0 rfl 1 rfl ?_
  refine g_callS (k := 0) (n := 0) hX (c_LR_requirePerson hl h) hdT_LR_requirePerson hdO_LR_requirePerson t_1 t_199 t_200 ⟨⟨by decide, by decide⟩, np_LR_requirePerson⟩ ⟨Nat.le_of_ble_eq_true rfl, Nat.le_of_ble_eq_true rfl⟩ (Nat.le_of_ble_eq_true rfl) d_LR_holding_1 rfl ?_ (fun _ _ z => z)
  rintro _ _ ⟨σ2, rfl, rfl, h⟩
  refine g_iconst (v := 0) hX d_LR_holding_4 (by decide) ?_
  refine g_istore_n hX d_LR_holding_5 rfl (by decide) rfl ?_
  refine g_iconst (v := 0) hX d_LR_holding_6 (by decide) ?_
  refine g_istore hX d_LR_holding_7 (by decide) rfl ?_
  refine g_sub [2, 3, 4, 1, 0] rfl ?_
  obtain ⟨f10, h⟩ := h
  exact b_LR_holding_9 hX hl  f10 _ _ _ _ _ h

def wp_LR_owed_43 (Γ : Ev) (k9 : Int32 → Int64 → Int32 → St → Prop) (post : Int64 → St → Prop) (thr : String → St → Prop) (x1 : Int32) (x2 : Int64) (x4 : Int32) (σ : St) : Prop := k9 (x1) (x2) ((x4 + 1)) (σ)
def wp_LR_owed_9 (Γ : Ev)  (post : Int64 → St → Prop) (thr : String → St → Prop) : Nat → Int32 → Int64 → Int32 → St → Prop
  | 0 => fun _ _ _ _ => False
  | fuel + 1 => fun x1 x2 x4 σ => (((80 : Int32) ≤ x4 → post x2 (σ)) ∧ (¬ (80 : Int32) ≤ x4 → (vp_in x4 80 ∧ (((St.I (σ) 1 ((x4).toNatClampNeg)) = 0 → wp_LR_owed_43 Γ (fun x1 x2 x4 σ => wp_LR_owed_9 Γ  post thr fuel x1 x2 x4 σ) post thr (x1) (x2) (x4) (σ)) ∧ (¬ (St.I (σ) 1 ((x4).toNatClampNeg)) = 0 → (vp_in x4 80 ∧ wp_P_owedTo Γ ((x4).toNatClampNeg) (x1) (σ) (fun v7 σ8 => wp_LR_owed_43 Γ (fun x1 x2 x4 σ => wp_LR_owed_9 Γ  post thr fuel x1 x2 x4 σ) post thr (x1) ((x2 + v7)) (x4) (σ8)) thr))))))
def wp_LR_owed (Γ : Ev) (x1 : Int32) (σ : St) (post : Int64 → St → Prop) (thr : String → St → Prop) : Prop := wp_LR_requirePerson Γ (x1) (σ) (fun σ2 => (∃ f9, wp_LR_owed_9 Γ  post thr f9 (x1) ((0 : Int64)) ((0 : Int32)) (σ2))) thr
abbrev rm_LR_owed : Room := { frames := 7, cells := 1, slots := 6, locals := 120 }
set_option maxRecDepth 100000 in
set_option maxHeartbeats 4000000 in
theorem b_LR_owed_43 {p : Program} {l : Launch} {e : Env} {s : State} {m : MethodId} {args : Array Value} {below : List Frame} {meth : Method} {c : Code} {D : va_G} {AC : Nat → ClassId} {lo : Nat} {Γ : Ev} {post : Int64 → St → Prop} {thr : String → St → Prop} (hX : Cx p s m args meth c y_LR_owed b_LR_owed 5 (some .long) [] D AC lo) (hl : l.flags = pinnedFlags ++ [noTraceFlag]) {k9 : Int32 → Int64 → Int32 → St → Prop} (hk9 : ∀ (x1 : Int32) (x2 : Int64) (x4 : Int32) (σ : St), k9 x1 x2 x4 σ → G p l e rm_LR_owed s m args below meth c 5 D lo (pL AC Γ post) (tX AC Γ thr) (wσ AC Γ (σ)) 0 0 9 [(0, .ref (Γ.ad 0)), (1, .int (x1)), (2, .long (x2)), (4, .int (x4))] []) (x1 : Int32) (x2 : Int64) (x4 : Int32) (σ : St) (h : wp_LR_owed_43 Γ k9 post thr x1 x2 x4 σ) : G p l e rm_LR_owed s m args below meth c 5 D lo (pL AC Γ post) (tX AC Γ thr) (wσ AC Γ (σ)) 0 0 43 [(0, .ref (Γ.ad 0)), (1, .int (x1)), (2, .long (x2)), (4, .int (x4))] [] := by
  unfold wp_LR_owed_43 at h
  refine g_iinc (v := x4 + 1) hX d_LR_owed_43 3 rfl (congrArg (x4 + ·) (by decide)) (by decide) rfl ?_
  refine g_goto (tgt := 9) hX d_LR_owed_46 (by decide) ?_
  refine g_sub [1, 2, 3, 0] rfl ?_
  exact hk9 (x1) (x2) ((x4 + 1)) (σ) h
set_option maxRecDepth 100000 in
set_option maxHeartbeats 4000000 in
theorem b_LR_owed_9 {p : Program} {l : Launch} {e : Env} {s : State} {m : MethodId} {args : Array Value} {below : List Frame} {meth : Method} {c : Code} {D : va_G} {AC : Nat → ClassId} {lo : Nat} {Γ : Ev} {post : Int64 → St → Prop} {thr : String → St → Prop} (hX : Cx p s m args meth c y_LR_owed b_LR_owed 5 (some .long) [] D AC lo) (hl : l.flags = pinnedFlags ++ [noTraceFlag])   : ∀ (fuel : Nat) (x1 : Int32) (x2 : Int64) (x4 : Int32) (σ : St), wp_LR_owed_9 Γ  post thr fuel x1 x2 x4 σ → G p l e rm_LR_owed s m args below meth c 5 D lo (pL AC Γ post) (tX AC Γ thr) (wσ AC Γ (σ)) 0 0 9 [(0, .ref (Γ.ad 0)), (1, .int (x1)), (2, .long (x2)), (4, .int (x4))] [] := by
  intro fuel
  induction fuel with
  | zero => intro x1 x2 x4 σ h; exact False.elim h
  | succ fuel ih =>
    intro x1 x2 x4 σ h
    simp only [wp_LR_owed_9] at h
    refine g_iload hX d_LR_owed_9 3 rfl ?_
    refine g_bipush (v := 80) hX d_LR_owed_11 (by decide) ?_
    refine g_icmp_ge (tgt := 49) hX d_LR_owed_13 (by decide) (fun q3 => ?_) (fun q3 => ?_)
    · have h := h.1 q3
      refine g_lload_n hX d_LR_owed_49 rfl 2 rfl ?_
      exact g_lret hX rfl d_LR_owed_50 ⟨_, _, rfl, rfl, h⟩
    · have h := h.2 q3
      refine g_aload_n hX d_LR_owed_16 rfl 0 rfl ?_
      refine g_getf (i := 0) (kf := 2) hX (lt_c (by decide)) rfl (lay_LR (AC := AC) (Γ := Γ)) rfl in_LR (by decide) t_100 (Or.inl rfl) rfl d_LR_owed_17 ?_
      refine g_iload hX d_LR_owed_20 3 rfl ?_
      obtain ⟨q4, h⟩ := h
      refine g_aald (i := 3) 4 hX (lt_c (by decide)) rfl (lay_pa (AC := AC) (Γ := Γ) (σ := σ)) rfl q4 (if_pos (in_lt q4)) d_LR_owed_22 ?_
      refine g_getf (i := (4 + 4 * (x4).toNatClampNeg)) (kf := 0) hX (lt_P (in_lt q4)) rfl (lay_p (in_lt q4)) rfl in_P (by decide) t_46 (Or.inl rfl) rfl d_LR_owed_23 ?_
      refine g_if_eq (tgt := 43) hX d_LR_owed_26 (by decide) (fun q5 => ?_) (fun q5 => ?_)
      · have h := h.1 q5
        refine g_sub [0, 1, 2, 3] rfl ?_
        exact b_LR_owed_43 hX hl (fun _ _ _ _ z => ih _ _ _ _ z) _ _ _ _ h
      · have h := h.2 q5
        refine g_lload_n hX d_LR_owed_29 rfl 2 rfl ?_
        refine g_aload_n hX d_LR_owed_30 rfl 0 rfl ?_
        refine g_getf (i := 0) (kf := 2) hX (lt_c (by decide)) rfl (lay_LR (AC := AC) (Γ := Γ)) rfl in_LR (by decide) t_100 (Or.inl rfl) rfl d_LR_owed_31 ?_
        refine g_iload hX d_LR_owed_34 3 rfl ?_
        obtain ⟨q6, h⟩ := h
        refine g_aald (i := 3) 4 hX (lt_c (by decide)) rfl (lay_pa (AC := AC) (Γ := Γ) (σ := σ)) rfl q6 (if_pos (in_lt q6)) d_LR_owed_36 ?_
        refine g_iload_n hX d_LR_owed_37 rfl 1 rfl ?_
        refine g_callV (i := (4 + 4 * (x4).toNatClampNeg)) (k := 0) (n := 0) hX (c_P_owedTo h) hdT_P_owedTo hdO_P_owedTo t_2 t_712 t_713 t_714 (lt_P (in_lt q6)) rfl (lay_p (in_lt q6)) rfl ⟨⟨by decide, by decide⟩, np_P_owedTo⟩ ⟨Nat.le_of_ble_eq_true rfl, Nat.le_of_ble_eq_true rfl⟩ (Nat.le_of_ble_eq_true rfl) d_LR_owed_38 rfl ?_ (fun _ _ z => z)
        rintro _ _ ⟨v7, σ8, rfl, rfl, h⟩
        refine g_ladd hX d_LR_owed_41 ?_
        refine g_lstore_n hX d_LR_owed_42 rfl (by decide) rfl ?_
        refine g_sub [1, 2, 0, 3] rfl ?_
        exact b_LR_owed_43 hX hl (fun _ _ _ _ z => ih _ _ _ _ z) _ _ _ _ h
set_option maxRecDepth 100000 in
set_option maxHeartbeats 4000000 in
theorem c_LR_owed {l : Launch} {D : va_G} {AC : Nat → ClassId} {lo : Nat} {Γ : Ev} {x1 : Int32} {σ : St} {post : Int64 → St → Prop} {thr : String → St → Prop} (hl : l.flags = pinnedFlags ++ [noTraceFlag]) (h : wp_LR_owed Γ x1 σ post thr) : Ct l y_LR_owed hd_LR_owed rm_LR_owed D AC lo [.ref (Γ.ad 0), .int (x1)] (wσ AC Γ σ) (pL AC Γ post) (tX AC Γ thr) := by
  refine Ct.of (by decide) (Nat.le_of_ble_eq_true rfl) ?_
  intro p e s m args below meth c hadm hX
  unfold wp_LR_owed at h
  show G p l e rm_LR_owed s m args below meth c 5 D lo (pL AC Γ post) (tX AC Γ thr) (wσ AC Γ (σ)) 1 6 0 [(0, .ref (Γ.ad 0)), (1, .int (x1))] []
  refine g_iload_n hX d_LR_owed_0 rfl 1 rfl ?_
  refine g_callS (k := 0) (n := 0) hX (c_LR_requirePerson hl h) hdT_LR_requirePerson hdO_LR_requirePerson t_1 t_199 t_200 ⟨⟨by decide, by decide⟩, np_LR_requirePerson⟩ ⟨Nat.le_of_ble_eq_true rfl, Nat.le_of_ble_eq_true rfl⟩ (Nat.le_of_ble_eq_true rfl) d_LR_owed_1 rfl ?_ (fun _ _ z => z)
  rintro _ _ ⟨σ2, rfl, rfl, h⟩
  refine g_lconst (v := 0) hX d_LR_owed_4 (by decide) ?_
  refine g_lstore_n hX d_LR_owed_5 rfl (by decide) rfl ?_
  refine g_iconst (v := 0) hX d_LR_owed_6 (by decide) ?_
  refine g_istore hX d_LR_owed_7 (by decide) rfl ?_
  refine g_sub [2, 3, 1, 0] rfl ?_
  obtain ⟨f9, h⟩ := h
  exact b_LR_owed_9 hX hl  f9 _ _ _ _ h

def wp_LR_state_12 (Γ : Ev)  (post : Int32 → St → Prop) (thr : String → St → Prop)  (σ : St) : Prop := thr "java/lang/IndexOutOfBoundsException" (σ)
def wp_LR_state (Γ : Ev) (x1 : Int32) (σ : St) (post : Int32 → St → Prop) (thr : String → St → Prop) : Prop := ((x1 < 0 → wp_LR_state_12 Γ  post thr  (σ)) ∧ (¬ x1 < 0 → ((x1 < (St.I (σ) 0 0) → (vp_in x1 40 ∧ ∃ n5, St.Rf (σ) 0 (x1).toNatClampNeg = some (Γ.ad (344 + n5)) ∧ n5 < Γ.nd ∧ (2 ≤ Γ.K n5 ∧ Γ.K n5 ≤ 10) ∧ post (St.I (σ) 9 n5) (σ))) ∧ (¬ x1 < (St.I (σ) 0 0) → wp_LR_state_12 Γ  post thr  (σ)))))
abbrev rm_LR_state : Room := { frames := 6, cells := 1, slots := 6, locals := 100 }
set_option maxRecDepth 100000 in
set_option maxHeartbeats 4000000 in
theorem b_LR_state_12 {p : Program} {l : Launch} {e : Env} {s : State} {m : MethodId} {args : Array Value} {below : List Frame} {meth : Method} {c : Code} {D : va_G} {AC : Nat → ClassId} {lo : Nat} {Γ : Ev} {post : Int32 → St → Prop} {thr : String → St → Prop} (hX : Cx p s m args meth c y_LR_state b_LR_state 2 (some .int) [] D AC lo) (hl : l.flags = pinnedFlags ++ [noTraceFlag])    (σ : St) (h : wp_LR_state_12 Γ  post thr  σ) : G p l e rm_LR_state s m args below meth c 2 D lo (pI AC Γ post) (tX AC Γ thr) (wσ AC Γ (σ)) 1 6 12 [] [] := by
  unfold wp_LR_state_12 at h
  exact g_throw (names := upX) hX hl fit_IndexOutOfBoundsException fit_up all_IndexOutOfBoundsException t_724 t_22 (str_in (own := "LandRegister") (k := 149) (tx := "there is no such deed") (by decide +kernel)) d_LR_state_12 d_LR_state_15 d_LR_state_16 d_LR_state_18 d_LR_state_21 (Nat.le_of_ble_eq_true rfl) (Nat.le_of_ble_eq_true rfl) ⟨_, rfl, h⟩
set_option maxRecDepth 100000 in
set_option maxHeartbeats 4000000 in
theorem c_LR_state {l : Launch} {D : va_G} {AC : Nat → ClassId} {lo : Nat} {Γ : Ev} {x1 : Int32} {σ : St} {post : Int32 → St → Prop} {thr : String → St → Prop} (hl : l.flags = pinnedFlags ++ [noTraceFlag]) (h : wp_LR_state Γ x1 σ post thr) : Ct l y_LR_state hd_LR_state rm_LR_state D AC lo [.ref (Γ.ad 0), .int (x1)] (wσ AC Γ σ) (pI AC Γ post) (tX AC Γ thr) := by
  refine Ct.of (by decide) (Nat.le_of_ble_eq_true rfl) ?_
  intro p e s m args below meth c hadm hX
  unfold wp_LR_state at h
  show G p l e rm_LR_state s m args below meth c 2 D lo (pI AC Γ post) (tX AC Γ thr) (wσ AC Γ (σ)) 1 6 0 [(0, .ref (Γ.ad 0)), (1, .int (x1))] []
  refine g_iload_n hX d_LR_state_0 rfl 1 rfl ?_
  refine g_if_lt (tgt := 12) hX d_LR_state_1 (by decide) (fun q1 => ?_) (fun q1 => ?_)
  · have h := h.1 q1
    refine g_sub [] rfl ?_
    exact b_LR_state_12 hX hl   _ h
  · have h := h.2 q1
    refine g_iload_n hX d_LR_state_4 rfl 1 rfl ?_
    refine g_aload_n hX d_LR_state_5 rfl 0 rfl ?_
    refine g_getf (i := 0) (kf := 3) hX (lt_c (by decide)) rfl (lay_LR (AC := AC) (Γ := Γ)) rfl in_LR (by decide) t_101 (Or.inl rfl) rfl d_LR_state_6 ?_
    refine g_icmp_lt (tgt := 22) hX d_LR_state_9 (by decide) (fun q2 => ?_) (fun q2 => ?_)
    · have h := h.1 q2
      refine g_aload_n hX d_LR_state_22 rfl 0 rfl ?_
      refine g_getf (i := 0) (kf := 0) hX (lt_c (by decide)) rfl (lay_LR (AC := AC) (Γ := Γ)) rfl in_LR (by decide) t_98 (Or.inl rfl) rfl d_LR_state_23 ?_
      refine g_iload_n hX d_LR_state_26 rfl 1 rfl ?_
      obtain ⟨q3, n5, q4, q6, q7, h⟩ := h
      refine g_aald (i := 1) 3 hX (lt_c (by decide)) rfl (lay_bn (AC := AC) (Γ := Γ)) rfl q3 q4 d_LR_state_27 ?_
      refine g_getD3 hX q6 q7 t_249 d_LR_state_28 ?_
      exact g_iret hX rfl d_LR_state_31 ⟨_, _, rfl, rfl, h⟩
    · have h := h.2 q2
      refine g_sub [] rfl ?_
      exact b_LR_state_12 hX hl   _ h
