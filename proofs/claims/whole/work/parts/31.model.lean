def wp_M_make_130 (Γ : Ev)  (post : St → Prop) (thr : String → St → Prop) : Nat → Int32 → Int32 → Int32 → St → Prop
  | 0 => fun _ _ _ _ => False
  | fuel + 1 => fun x1 x4 x5 σ => (vp_in x1 80 ∧ (((St.I (σ) 30 (x1).toNatClampNeg) ≤ x5 → (vp_in x1 80 ∧ post (St.sI (σ) 34 (x1).toNatClampNeg x4))) ∧ (¬ (St.I (σ) 30 (x1).toNatClampNeg) ≤ x5 → (vp_in (((4 : Int32) * x4) + x5) 320 ∧ (vp_in (((4 : Int32) * x1) + x5) 320 ∧ (vp_in (((4 : Int32) * x4) + x5) 320 ∧ (vp_in (((4 : Int32) * x1) + x5) 320 ∧ wp_M_make_130 Γ  post thr fuel (x1) (x4) ((x5 + 1)) (St.sI (St.sI (σ) 31 ((((4 : Int32) * x1) + x5)).toNatClampNeg (St.I (σ) 31 ((((4 : Int32) * x4) + x5)).toNatClampNeg)) 32 ((((4 : Int32) * x1) + x5)).toNatClampNeg (St.I (St.sI (σ) 31 ((((4 : Int32) * x1) + x5)).toNatClampNeg (St.I (σ) 31 ((((4 : Int32) * x4) + x5)).toNatClampNeg)) 32 ((((4 : Int32) * x4) + x5)).toNatClampNeg)))))))))
def wp_M_make_120 (Γ : Ev) (k46 : Int32 → Int32 → Int32 → St → Prop) (post : St → Prop) (thr : String → St → Prop) (x1 : Int32) (x4 : Int32) (x5 : Int32) (s0 : Int64) (s1 : Int32) (σ : St) : Prop := (vp_in s1 640 ∧ k46 (x1) (x4) ((x5 + 1)) (St.sL (σ) 5 (s1).toNatClampNeg s0))
def wp_M_make_86 (Γ : Ev) (k46 : Int32 → Int32 → Int32 → St → Prop) (post : St → Prop) (thr : String → St → Prop) (x1 : Int32) (x4 : Int32) (x5 : Int32) (s0 : Int64) (s1 : Int32) (σ : St) : Prop := (vp_in s1 640 ∧ ((0 ≤ x4 → (vp_in (((8 : Int32) * x4) + x5) 640 ∧ wp_M_make_120 Γ k46 post thr (x1) (x4) (x5) ((St.L (St.sL (σ) 4 (s1).toNatClampNeg s0) 5 ((((8 : Int32) * x4) + x5)).toNatClampNeg)) ((((8 : Int32) * x1) + x5)) (St.sL (σ) 4 (s1).toNatClampNeg s0))) ∧ (¬ 0 ≤ x4 → wp_M_make_120 Γ k46 post thr (x1) (x4) (x5) ((1 : Int64)) ((((8 : Int32) * x1) + x5)) (St.sL (σ) 4 (s1).toNatClampNeg s0))))
def wp_M_make_46 (Γ : Ev)  (post : St → Prop) (thr : String → St → Prop) : Nat → Int32 → Int32 → Int32 → St → Prop
  | 0 => fun _ _ _ _ => False
  | fuel + 1 => fun x1 x4 x5 σ => (((8 : Int32) ≤ x5 → (∃ f15, wp_M_make_130 Γ  post thr f15 (x1) (x4) ((0 : Int32)) (σ))) ∧ (¬ (8 : Int32) ≤ x5 → ((0 ≤ x4 → (vp_in (((8 : Int32) * x4) + x5) 640 ∧ wp_M_make_86 Γ (fun x1 x4 x5 σ => wp_M_make_46 Γ  post thr fuel x1 x4 x5 σ) post thr (x1) (x4) (x5) ((St.L (σ) 4 ((((8 : Int32) * x4) + x5)).toNatClampNeg)) ((((8 : Int32) * x1) + x5)) (σ))) ∧ (¬ 0 ≤ x4 → wp_M_make_86 Γ (fun x1 x4 x5 σ => wp_M_make_46 Γ  post thr fuel x1 x4 x5 σ) post thr (x1) (x4) (x5) ((0 : Int64)) ((((8 : Int32) * x1) + x5)) (σ)))))
def wp_M_make_42 (Γ : Ev)  (post : St → Prop) (thr : String → St → Prop) (x1 : Int32) (x4 : Int32) (s0 : Int32) (s1 : Int32) (σ : St) : Prop := (vp_in s1 80 ∧ (∃ f22, wp_M_make_46 Γ  post thr f22 (x1) (x4) ((0 : Int32)) (St.sI (σ) 30 (s1).toNatClampNeg s0)))
def wp_M_make (Γ : Ev) (x1 : Int32) (x2 : Int64) (x4 : Int32) (σ : St) (post : St → Prop) (thr : String → St → Prop) : Prop := (vp_in x1 80 ∧ (vp_in x1 80 ∧ (vp_in x1 80 ∧ ((0 ≤ x4 → (vp_in x4 80 ∧ wp_M_make_42 Γ  post thr (x1) (x4) ((St.I (St.sI (St.sL (St.sI (σ) 29 (x1).toNatClampNeg (1 : Int32)) 3 (x1).toNatClampNeg x2) 33 (x1).toNatClampNeg (0 : Int32)) 30 (x4).toNatClampNeg)) (x1) (St.sI (St.sL (St.sI (σ) 29 (x1).toNatClampNeg (1 : Int32)) 3 (x1).toNatClampNeg x2) 33 (x1).toNatClampNeg (0 : Int32)))) ∧ (¬ 0 ≤ x4 → wp_M_make_42 Γ  post thr (x1) (x4) ((0 : Int32)) (x1) (St.sI (St.sL (St.sI (σ) 29 (x1).toNatClampNeg (1 : Int32)) 3 (x1).toNatClampNeg x2) 33 (x1).toNatClampNeg (0 : Int32)))))))
abbrev rm_M_make : Room := { frames := 0, cells := 0, slots := 0, locals := 0 }
set_option maxRecDepth 100000 in
set_option maxHeartbeats 4000000 in
theorem b_M_make_130 {p : Program} {l : Launch} {e : Env} {s : State} {m : MethodId} {args : Array Value} {below : List Frame} {meth : Method} {c : Code} {D : va_G} {AC : Nat → ClassId} {lo : Nat} {Γ : Ev} {post : St → Prop} {thr : String → St → Prop} (hX : Cx p s m args meth c y_M_make b_M_make 6 none [] D AC lo)   : ∀ (fuel : Nat) (x1 : Int32) (x4 : Int32) (x5 : Int32) (σ : St), wp_M_make_130 Γ  post thr fuel x1 x4 x5 σ → G p l e rm_M_make s m args below meth c 6 D lo (pV AC Γ post) (tX AC Γ thr) (wσ AC Γ (σ)) 0 0 130 [(0, .ref (Γ.ad 324)), (1, .int (x1)), (4, .int (x4)), (5, .int (x5))] [] := by
  intro fuel
  induction fuel with
  | zero => intro x1 x4 x5 σ h; exact False.elim h
  | succ fuel ih =>
    intro x1 x4 x5 σ h
    simp only [wp_M_make_130] at h
    refine g_iload hX d_M_make_130 3 rfl ?_
    refine g_aload_n hX d_M_make_132 rfl 0 rfl ?_
    refine g_getf (i := 324) (kf := 15) hX (lt_c (by decide)) rfl (lay_MO (AC := AC) (Γ := Γ)) rfl in_M (by decide) t_820 (Or.inl rfl) rfl d_M_make_133 ?_
    refine g_iload_n hX d_M_make_136 rfl 1 rfl ?_
    obtain ⟨q8, h⟩ := h
    refine g_iald (i := 337) hX (lt_c (by decide)) rfl (lay_m12 (AC := AC) (Γ := Γ)) q8 d_M_make_137 ?_
    refine g_icmp_ge (tgt := 193) hX d_M_make_138 (by decide) (fun q9 => ?_) (fun q9 => ?_)
    · have h := h.1 q9
      refine g_aload_n hX d_M_make_193 rfl 0 rfl ?_
      refine g_getf (i := 324) (kf := 19) hX (lt_c (by decide)) rfl (lay_MO (AC := AC) (Γ := Γ)) rfl in_M (by decide) t_824 (Or.inl rfl) rfl d_M_make_194 ?_
      refine g_iload_n hX d_M_make_197 rfl 1 rfl ?_
      refine g_iload hX d_M_make_198 2 rfl ?_
      obtain ⟨q10, h⟩ := h
      refine g_iast (i := 341) hX (lt_c (by decide)) rfl (lay_m16 (AC := AC) (Γ := Γ)) q10 d_M_make_200 (wσ_m_from (upd (St.I (σ) 34) (x1).toNatClampNeg x4)) ?_
      exact g_vret hX rfl d_M_make_201 ⟨_, rfl, rfl, h⟩
    · have h := h.2 q9
      refine g_aload_n hX d_M_make_141 rfl 0 rfl ?_
      refine g_getf (i := 324) (kf := 16) hX (lt_c (by decide)) rfl (lay_MO (AC := AC) (Γ := Γ)) rfl in_M (by decide) t_821 (Or.inl rfl) rfl d_M_make_142 ?_
      refine g_iconst (v := 4) hX d_M_make_145 (by decide) ?_
      refine g_iload_n hX d_M_make_146 rfl 1 rfl ?_
      refine g_imul hX d_M_make_147 ?_
      refine g_iload hX d_M_make_148 3 rfl ?_
      refine g_iadd hX d_M_make_150 ?_
      refine g_aload_n hX d_M_make_151 rfl 0 rfl ?_
      refine g_getf (i := 324) (kf := 16) hX (lt_c (by decide)) rfl (lay_MO (AC := AC) (Γ := Γ)) rfl in_M (by decide) t_821 (Or.inl rfl) rfl d_M_make_152 ?_
      refine g_iconst (v := 4) hX d_M_make_155 (by decide) ?_
      refine g_iload hX d_M_make_156 2 rfl ?_
      refine g_imul hX d_M_make_158 ?_
      refine g_iload hX d_M_make_159 3 rfl ?_
      refine g_iadd hX d_M_make_161 ?_
      obtain ⟨q11, h⟩ := h
      refine g_iald (i := 338) hX (lt_c (by decide)) rfl (lay_m13 (AC := AC) (Γ := Γ)) q11 d_M_make_162 ?_
      obtain ⟨q12, h⟩ := h
      refine g_iast (i := 338) hX (lt_c (by decide)) rfl (lay_m13 (AC := AC) (Γ := Γ)) q12 d_M_make_163 (wσ_m_mcred (upd (St.I (σ) 31) ((((4 : Int32) * x1) + x5)).toNatClampNeg (St.I (σ) 31 ((((4 : Int32) * x4) + x5)).toNatClampNeg))) ?_
      refine g_aload_n hX d_M_make_164 rfl 0 rfl ?_
      refine g_getf (i := 324) (kf := 17) hX (lt_c (by decide)) rfl (lay_MO (AC := AC) (Γ := Γ)) rfl in_M (by decide) t_822 (Or.inl rfl) rfl d_M_make_165 ?_
      refine g_iconst (v := 4) hX d_M_make_168 (by decide) ?_
      refine g_iload_n hX d_M_make_169 rfl 1 rfl ?_
      refine g_imul hX d_M_make_170 ?_
      refine g_iload hX d_M_make_171 3 rfl ?_
      refine g_iadd hX d_M_make_173 ?_
      refine g_aload_n hX d_M_make_174 rfl 0 rfl ?_
      refine g_getf (i := 324) (kf := 17) hX (lt_c (by decide)) rfl (lay_MO (AC := AC) (Γ := Γ)) rfl in_M (by decide) t_822 (Or.inl rfl) rfl d_M_make_175 ?_
      refine g_iconst (v := 4) hX d_M_make_178 (by decide) ?_
      refine g_iload hX d_M_make_179 2 rfl ?_
      refine g_imul hX d_M_make_181 ?_
      refine g_iload hX d_M_make_182 3 rfl ?_
      refine g_iadd hX d_M_make_184 ?_
      obtain ⟨q13, h⟩ := h
      refine g_iald (i := 339) hX (lt_c (by decide)) rfl (lay_m14 (AC := AC) (Γ := Γ)) q13 d_M_make_185 ?_
      obtain ⟨q14, h⟩ := h
      refine g_iast (i := 339) hX (lt_c (by decide)) rfl (lay_m14 (AC := AC) (Γ := Γ)) q14 d_M_make_186 (wσ_m_mamt (upd (St.I (St.sI (σ) 31 ((((4 : Int32) * x1) + x5)).toNatClampNeg (St.I (σ) 31 ((((4 : Int32) * x4) + x5)).toNatClampNeg)) 32) ((((4 : Int32) * x1) + x5)).toNatClampNeg (St.I (St.sI (σ) 31 ((((4 : Int32) * x1) + x5)).toNatClampNeg (St.I (σ) 31 ((((4 : Int32) * x4) + x5)).toNatClampNeg)) 32 ((((4 : Int32) * x4) + x5)).toNatClampNeg))) ?_
      refine g_iinc (v := x5 + 1) hX d_M_make_187 3 rfl (congrArg (x5 + ·) (by decide)) (by decide) rfl ?_
      refine g_goto (tgt := 130) hX d_M_make_190 (by decide) ?_
      refine g_sub [1, 2, 3, 0] rfl ?_
      exact ih (x1) (x4) ((x5 + 1)) (St.sI (St.sI (σ) 31 ((((4 : Int32) * x1) + x5)).toNatClampNeg (St.I (σ) 31 ((((4 : Int32) * x4) + x5)).toNatClampNeg)) 32 ((((4 : Int32) * x1) + x5)).toNatClampNeg (St.I (St.sI (σ) 31 ((((4 : Int32) * x1) + x5)).toNatClampNeg (St.I (σ) 31 ((((4 : Int32) * x4) + x5)).toNatClampNeg)) 32 ((((4 : Int32) * x4) + x5)).toNatClampNeg)) h
set_option maxRecDepth 100000 in
set_option maxHeartbeats 4000000 in
theorem b_M_make_120 {p : Program} {l : Launch} {e : Env} {s : State} {m : MethodId} {args : Array Value} {below : List Frame} {meth : Method} {c : Code} {D : va_G} {AC : Nat → ClassId} {lo : Nat} {Γ : Ev} {post : St → Prop} {thr : String → St → Prop} (hX : Cx p s m args meth c y_M_make b_M_make 6 none [] D AC lo) {k46 : Int32 → Int32 → Int32 → St → Prop} (hk46 : ∀ (x1 : Int32) (x4 : Int32) (x5 : Int32) (σ : St), k46 x1 x4 x5 σ → G p l e rm_M_make s m args below meth c 6 D lo (pV AC Γ post) (tX AC Γ thr) (wσ AC Γ (σ)) 0 0 46 [(0, .ref (Γ.ad 324)), (1, .int (x1)), (4, .int (x4)), (5, .int (x5))] []) (x1 : Int32) (x4 : Int32) (x5 : Int32) (s0 : Int64) (s1 : Int32) (σ : St) (h : wp_M_make_120 Γ k46 post thr x1 x4 x5 s0 s1 σ) : G p l e rm_M_make s m args below meth c 6 D lo (pV AC Γ post) (tX AC Γ thr) (wσ AC Γ (σ)) 0 0 120 [(0, .ref (Γ.ad 324)), (1, .int (x1)), (4, .int (x4)), (5, .int (x5))] [.long (s0), .int (s1), .ref (Γ.ad 336)] := by
  unfold wp_M_make_120 at h
  obtain ⟨q21, h⟩ := h
  refine g_last (i := 336) hX (lt_c (by decide)) rfl (lay_m11 (AC := AC) (Γ := Γ)) q21 d_M_make_120 (wσ_m_bottoms (vp_updL (St.L (σ) 5) (s1).toNatClampNeg s0)) ?_
  refine g_iinc (v := x5 + 1) hX d_M_make_121 3 rfl (congrArg (x5 + ·) (by decide)) (by decide) rfl ?_
  refine g_goto (tgt := 46) hX d_M_make_124 (by decide) ?_
  refine g_sub [1, 2, 3, 0] rfl ?_
  exact hk46 (x1) (x4) ((x5 + 1)) (St.sL (σ) 5 (s1).toNatClampNeg s0) h
set_option maxRecDepth 100000 in
set_option maxHeartbeats 4000000 in
theorem b_M_make_86 {p : Program} {l : Launch} {e : Env} {s : State} {m : MethodId} {args : Array Value} {below : List Frame} {meth : Method} {c : Code} {D : va_G} {AC : Nat → ClassId} {lo : Nat} {Γ : Ev} {post : St → Prop} {thr : String → St → Prop} (hX : Cx p s m args meth c y_M_make b_M_make 6 none [] D AC lo) {k46 : Int32 → Int32 → Int32 → St → Prop} (hk46 : ∀ (x1 : Int32) (x4 : Int32) (x5 : Int32) (σ : St), k46 x1 x4 x5 σ → G p l e rm_M_make s m args below meth c 6 D lo (pV AC Γ post) (tX AC Γ thr) (wσ AC Γ (σ)) 0 0 46 [(0, .ref (Γ.ad 324)), (1, .int (x1)), (4, .int (x4)), (5, .int (x5))] []) (x1 : Int32) (x4 : Int32) (x5 : Int32) (s0 : Int64) (s1 : Int32) (σ : St) (h : wp_M_make_86 Γ k46 post thr x1 x4 x5 s0 s1 σ) : G p l e rm_M_make s m args below meth c 6 D lo (pV AC Γ post) (tX AC Γ thr) (wσ AC Γ (σ)) 0 0 86 [(0, .ref (Γ.ad 324)), (1, .int (x1)), (4, .int (x4)), (5, .int (x5))] [.long (s0), .int (s1), .ref (Γ.ad 335)] := by
  unfold wp_M_make_86 at h
  obtain ⟨q18, h⟩ := h
  refine g_last (i := 335) hX (lt_c (by decide)) rfl (lay_m10 (AC := AC) (Γ := Γ)) q18 d_M_make_86 (wσ_m_tops (vp_updL (St.L (σ) 4) (s1).toNatClampNeg s0)) ?_
  refine g_aload_n hX d_M_make_87 rfl 0 rfl ?_
  refine g_getf (i := 324) (kf := 14) hX (lt_c (by decide)) rfl (lay_MO (AC := AC) (Γ := Γ)) rfl in_M (by decide) t_819 (Or.inl rfl) rfl d_M_make_88 ?_
  refine g_bipush (v := 8) hX d_M_make_91 (by decide) ?_
  refine g_iload_n hX d_M_make_93 rfl 1 rfl ?_
  refine g_imul hX d_M_make_94 ?_
  refine g_iload hX d_M_make_95 3 rfl ?_
  refine g_iadd hX d_M_make_97 ?_
  refine g_iload hX d_M_make_98 2 rfl ?_
  refine g_if_ge (tgt := 107) hX d_M_make_100 (by decide) (fun q19 => ?_) (fun q19 => ?_)
  · have h := h.1 q19
    refine g_aload_n hX d_M_make_107 rfl 0 rfl ?_
    refine g_getf (i := 324) (kf := 14) hX (lt_c (by decide)) rfl (lay_MO (AC := AC) (Γ := Γ)) rfl in_M (by decide) t_819 (Or.inl rfl) rfl d_M_make_108 ?_
    refine g_bipush (v := 8) hX d_M_make_111 (by decide) ?_
    refine g_iload hX d_M_make_113 2 rfl ?_
    refine g_imul hX d_M_make_115 ?_
    refine g_iload hX d_M_make_116 3 rfl ?_
    refine g_iadd hX d_M_make_118 ?_
    obtain ⟨q20, h⟩ := h
    refine g_lald (i := 336) hX (lt_c (by decide)) rfl (lay_m11 (AC := AC) (Γ := Γ)) q20 d_M_make_119 ?_
    refine g_sub [0, 1, 2, 3] rfl ?_
    exact b_M_make_120 hX hk46 _ _ _ _ _ _ h
  · have h := h.2 q19
    refine g_lconst (v := 1) hX d_M_make_103 (by decide) ?_
    refine g_goto (tgt := 120) hX d_M_make_104 (by decide) ?_
    refine g_sub [0, 1, 2, 3] rfl ?_
    exact b_M_make_120 hX hk46 _ _ _ _ _ _ h
set_option maxRecDepth 100000 in
set_option maxHeartbeats 4000000 in
theorem b_M_make_46 {p : Program} {l : Launch} {e : Env} {s : State} {m : MethodId} {args : Array Value} {below : List Frame} {meth : Method} {c : Code} {D : va_G} {AC : Nat → ClassId} {lo : Nat} {Γ : Ev} {post : St → Prop} {thr : String → St → Prop} (hX : Cx p s m args meth c y_M_make b_M_make 6 none [] D AC lo)   : ∀ (fuel : Nat) (x1 : Int32) (x4 : Int32) (x5 : Int32) (σ : St), wp_M_make_46 Γ  post thr fuel x1 x4 x5 σ → G p l e rm_M_make s m args below meth c 6 D lo (pV AC Γ post) (tX AC Γ thr) (wσ AC Γ (σ)) 0 0 46 [(0, .ref (Γ.ad 324)), (1, .int (x1)), (4, .int (x4)), (5, .int (x5))] [] := by
  intro fuel
  induction fuel with
  | zero => intro x1 x4 x5 σ h; exact False.elim h
  | succ fuel ih =>
    intro x1 x4 x5 σ h
    simp only [wp_M_make_46] at h
    refine g_iload hX d_M_make_46 3 rfl ?_
    refine g_bipush (v := 8) hX d_M_make_48 (by decide) ?_
    refine g_icmp_ge (tgt := 127) hX d_M_make_50 (by decide) (fun q7 => ?_) (fun q7 => ?_)
    · have h := h.1 q7
      refine g_iconst (v := 0) hX d_M_make_127 (by decide) ?_
      refine g_istore hX d_M_make_128 (by decide) rfl ?_
      refine g_sub [1, 2, 3, 0] rfl ?_
      obtain ⟨f15, h⟩ := h
      exact b_M_make_130 hX  f15 _ _ _ _ h
    · have h := h.2 q7
      refine g_aload_n hX d_M_make_53 rfl 0 rfl ?_
      refine g_getf (i := 324) (kf := 13) hX (lt_c (by decide)) rfl (lay_MO (AC := AC) (Γ := Γ)) rfl in_M (by decide) t_818 (Or.inl rfl) rfl d_M_make_54 ?_
      refine g_bipush (v := 8) hX d_M_make_57 (by decide) ?_
      refine g_iload_n hX d_M_make_59 rfl 1 rfl ?_
      refine g_imul hX d_M_make_60 ?_
      refine g_iload hX d_M_make_61 3 rfl ?_
      refine g_iadd hX d_M_make_63 ?_
      refine g_iload hX d_M_make_64 2 rfl ?_
      refine g_if_ge (tgt := 73) hX d_M_make_66 (by decide) (fun q16 => ?_) (fun q16 => ?_)
      · have h := h.1 q16
        refine g_aload_n hX d_M_make_73 rfl 0 rfl ?_
        refine g_getf (i := 324) (kf := 13) hX (lt_c (by decide)) rfl (lay_MO (AC := AC) (Γ := Γ)) rfl in_M (by decide) t_818 (Or.inl rfl) rfl d_M_make_74 ?_
        refine g_bipush (v := 8) hX d_M_make_77 (by decide) ?_
        refine g_iload hX d_M_make_79 2 rfl ?_
        refine g_imul hX d_M_make_81 ?_
        refine g_iload hX d_M_make_82 3 rfl ?_
        refine g_iadd hX d_M_make_84 ?_
        obtain ⟨q17, h⟩ := h
        refine g_lald (i := 335) hX (lt_c (by decide)) rfl (lay_m10 (AC := AC) (Γ := Γ)) q17 d_M_make_85 ?_
        refine g_sub [0, 1, 2, 3] rfl ?_
        exact b_M_make_86 hX (fun _ _ _ _ z => ih _ _ _ _ z) _ _ _ _ _ _ h
      · have h := h.2 q16
        refine g_lconst (v := 0) hX d_M_make_69 (by decide) ?_
        refine g_goto (tgt := 86) hX d_M_make_70 (by decide) ?_
        refine g_sub [0, 1, 2, 3] rfl ?_
        exact b_M_make_86 hX (fun _ _ _ _ z => ih _ _ _ _ z) _ _ _ _ _ _ h
set_option maxRecDepth 100000 in
set_option maxHeartbeats 4000000 in
theorem b_M_make_42 {p : Program} {l : Launch} {e : Env} {s : State} {m : MethodId} {args : Array Value} {below : List Frame} {meth : Method} {c : Code} {D : va_G} {AC : Nat → ClassId} {lo : Nat} {Γ : Ev} {post : St → Prop} {thr : String → St → Prop} (hX : Cx p s m args meth c y_M_make b_M_make 6 none [] D AC lo)   (x1 : Int32) (x4 : Int32) (s0 : Int32) (s1 : Int32) (σ : St) (h : wp_M_make_42 Γ  post thr x1 x4 s0 s1 σ) : G p l e rm_M_make s m args below meth c 6 D lo (pV AC Γ post) (tX AC Γ thr) (wσ AC Γ (σ)) 0 0 42 [(0, .ref (Γ.ad 324)), (1, .int (x1)), (4, .int (x4))] [.int (s0), .int (s1), .ref (Γ.ad 337)] := by
  unfold wp_M_make_42 at h
  obtain ⟨q6, h⟩ := h
  refine g_iast (i := 337) hX (lt_c (by decide)) rfl (lay_m12 (AC := AC) (Γ := Γ)) q6 d_M_make_42 (wσ_m_many (upd (St.I (σ) 30) (s1).toNatClampNeg s0)) ?_
  refine g_iconst (v := 0) hX d_M_make_43 (by decide) ?_
  refine g_istore hX d_M_make_44 (by decide) rfl ?_
  refine g_sub [1, 2, 3, 0] rfl ?_
  obtain ⟨f22, h⟩ := h
  exact b_M_make_46 hX  f22 _ _ _ _ h
set_option maxRecDepth 100000 in
set_option maxHeartbeats 4000000 in
theorem c_M_make {l : Launch} {D : va_G} {AC : Nat → ClassId} {lo : Nat} {Γ : Ev} {x1 : Int32} {x2 : Int64} {x4 : Int32} {σ : St} {post : St → Prop} {thr : String → St → Prop} (h : wp_M_make Γ x1 x2 x4 σ post thr) : Ct l y_M_make hd_M_make rm_M_make D AC lo [.ref (Γ.ad 324), .int (x1), .long (x2), .int (x4)] (wσ AC Γ σ) (pV AC Γ post) (tX AC Γ thr) := by
  refine Ct.of (by decide) (Nat.le_of_ble_eq_true rfl) ?_
  intro p e s m args below meth c hadm hX
  unfold wp_M_make at h
  show G p l e rm_M_make s m args below meth c 6 D lo (pV AC Γ post) (tX AC Γ thr) (wσ AC Γ (σ)) 0 0 0 [(0, .ref (Γ.ad 324)), (1, .int (x1)), (2, .long (x2)), (4, .int (x4))] []
  refine g_aload_n hX d_M_make_0 rfl 0 rfl ?_
  refine g_getf (i := 324) (kf := 11) hX (lt_c (by decide)) rfl (lay_MO (AC := AC) (Γ := Γ)) rfl in_M (by decide) t_816 (Or.inl rfl) rfl d_M_make_1 ?_
  refine g_iload_n hX d_M_make_4 rfl 1 rfl ?_
  refine g_iconst (v := 1) hX d_M_make_5 (by decide) ?_
  obtain ⟨q1, h⟩ := h
  refine g_zast (i := 333) hX (lt_c (by decide)) rfl (lay_m8 (AC := AC) (Γ := Γ)) q1 d_M_make_6 (wσ_m_mlives (upd (St.I (σ) 29) (x1).toNatClampNeg (1 : Int32))) ?_
  refine g_aload_n hX d_M_make_7 rfl 0 rfl ?_
  refine g_getf (i := 324) (kf := 12) hX (lt_c (by decide)) rfl (lay_MO (AC := AC) (Γ := Γ)) rfl in_M (by decide) t_817 (Or.inl rfl) rfl d_M_make_8 ?_
  refine g_iload_n hX d_M_make_11 rfl 1 rfl ?_
  refine g_lload_n hX d_M_make_12 rfl 2 rfl ?_
  obtain ⟨q2, h⟩ := h
  refine g_last (i := 334) hX (lt_c (by decide)) rfl (lay_m9 (AC := AC) (Γ := Γ)) q2 d_M_make_13 (wσ_m_areas (vp_updL (St.L (St.sI (σ) 29 (x1).toNatClampNeg (1 : Int32)) 3) (x1).toNatClampNeg x2)) ?_
  refine g_aload_n hX d_M_make_14 rfl 0 rfl ?_
  refine g_getf (i := 324) (kf := 18) hX (lt_c (by decide)) rfl (lay_MO (AC := AC) (Γ := Γ)) rfl in_M (by decide) t_823 (Or.inl rfl) rfl d_M_make_15 ?_
  refine g_iload_n hX d_M_make_18 rfl 1 rfl ?_
  refine g_iconst (v := 0) hX d_M_make_19 (by decide) ?_
  obtain ⟨q3, h⟩ := h
  refine g_iast (i := 340) hX (lt_c (by decide)) rfl (lay_m15 (AC := AC) (Γ := Γ)) q3 d_M_make_20 (wσ_m_warned (upd (St.I (St.sL (St.sI (σ) 29 (x1).toNatClampNeg (1 : Int32)) 3 (x1).toNatClampNeg x2) 33) (x1).toNatClampNeg (0 : Int32))) ?_
  refine g_aload_n hX d_M_make_21 rfl 0 rfl ?_
  refine g_getf (i := 324) (kf := 15) hX (lt_c (by decide)) rfl (lay_MO (AC := AC) (Γ := Γ)) rfl in_M (by decide) t_820 (Or.inl rfl) rfl d_M_make_22 ?_
  refine g_iload_n hX d_M_make_25 rfl 1 rfl ?_
  refine g_iload hX d_M_make_26 3 rfl ?_
  refine g_if_ge (tgt := 35) hX d_M_make_28 (by decide) (fun q4 => ?_) (fun q4 => ?_)
  · have h := h.1 q4
    refine g_aload_n hX d_M_make_35 rfl 0 rfl ?_
    refine g_getf (i := 324) (kf := 15) hX (lt_c (by decide)) rfl (lay_MO (AC := AC) (Γ := Γ)) rfl in_M (by decide) t_820 (Or.inl rfl) rfl d_M_make_36 ?_
    refine g_iload hX d_M_make_39 3 rfl ?_
    obtain ⟨q5, h⟩ := h
    refine g_iald (i := 337) hX (lt_c (by decide)) rfl (lay_m12 (AC := AC) (Γ := Γ)) q5 d_M_make_41 ?_
    refine g_sub [0, 1, 3] rfl ?_
    exact b_M_make_42 hX  _ _ _ _ _ h
  · have h := h.2 q4
    refine g_iconst (v := 0) hX d_M_make_31 (by decide) ?_
    refine g_goto (tgt := 42) hX d_M_make_32 (by decide) ?_
    refine g_sub [0, 1, 3] rfl ?_
    exact b_M_make_42 hX  _ _ _ _ _ h

def wp_M_exchange (Γ : Ev) (x1 : Int32) (x2 : Int32) (σ : St) (post : St → Prop) (thr : String → St → Prop) : Prop := (vp_in x1 320 ∧ (vp_in x1 320 ∧ (vp_in x2 320 ∧ (vp_in x1 320 ∧ (vp_in x2 320 ∧ (vp_in x1 320 ∧ (vp_in x2 320 ∧ (vp_in x2 320 ∧ post (St.sI (St.sI (St.sI (St.sI (σ) 31 (x1).toNatClampNeg (St.I (σ) 31 (x2).toNatClampNeg)) 32 (x1).toNatClampNeg (St.I (St.sI (σ) 31 (x1).toNatClampNeg (St.I (σ) 31 (x2).toNatClampNeg)) 32 (x2).toNatClampNeg)) 31 (x2).toNatClampNeg (St.I (σ) 31 (x1).toNatClampNeg)) 32 (x2).toNatClampNeg (St.I (σ) 32 (x1).toNatClampNeg))))))))))
abbrev rm_M_exchange : Room := { frames := 0, cells := 0, slots := 0, locals := 0 }
set_option maxRecDepth 100000 in
set_option maxHeartbeats 4000000 in
theorem c_M_exchange {l : Launch} {D : va_G} {AC : Nat → ClassId} {lo : Nat} {Γ : Ev} {x1 : Int32} {x2 : Int32} {σ : St} {post : St → Prop} {thr : String → St → Prop} (h : wp_M_exchange Γ x1 x2 σ post thr) : Ct l y_M_exchange hd_M_exchange rm_M_exchange D AC lo [.ref (Γ.ad 324), .int (x1), .int (x2)] (wσ AC Γ σ) (pV AC Γ post) (tX AC Γ thr) := by
  refine Ct.of (by decide) (Nat.le_of_ble_eq_true rfl) ?_
  intro p e s m args below meth c hadm hX
  unfold wp_M_exchange at h
  show G p l e rm_M_exchange s m args below meth c 5 D lo (pV AC Γ post) (tX AC Γ thr) (wσ AC Γ (σ)) 0 0 0 [(0, .ref (Γ.ad 324)), (1, .int (x1)), (2, .int (x2))] []
  refine g_aload_n hX d_M_exchange_0 rfl 0 rfl ?_
  refine g_getf (i := 324) (kf := 16) hX (lt_c (by decide)) rfl (lay_MO (AC := AC) (Γ := Γ)) rfl in_M (by decide) t_821 (Or.inl rfl) rfl d_M_exchange_1 ?_
  refine g_iload_n hX d_M_exchange_4 rfl 1 rfl ?_
  obtain ⟨q1, h⟩ := h
  refine g_iald (i := 338) hX (lt_c (by decide)) rfl (lay_m13 (AC := AC) (Γ := Γ)) q1 d_M_exchange_5 ?_
  refine g_istore_n hX d_M_exchange_6 rfl (by decide) rfl ?_
  refine g_aload_n hX d_M_exchange_7 rfl 1 rfl ?_
  refine g_getf (i := 324) (kf := 17) hX (lt_c (by decide)) rfl (lay_MO (AC := AC) (Γ := Γ)) rfl in_M (by decide) t_822 (Or.inl rfl) rfl d_M_exchange_8 ?_
  refine g_iload_n hX d_M_exchange_11 rfl 2 rfl ?_
  obtain ⟨q2, h⟩ := h
  refine g_iald (i := 339) hX (lt_c (by decide)) rfl (lay_m14 (AC := AC) (Γ := Γ)) q2 d_M_exchange_12 ?_
  refine g_istore hX d_M_exchange_13 (by decide) rfl ?_
  refine g_aload_n hX d_M_exchange_15 rfl 2 rfl ?_
  refine g_getf (i := 324) (kf := 16) hX (lt_c (by decide)) rfl (lay_MO (AC := AC) (Γ := Γ)) rfl in_M (by decide) t_821 (Or.inl rfl) rfl d_M_exchange_16 ?_
  refine g_iload_n hX d_M_exchange_19 rfl 3 rfl ?_
  refine g_aload_n hX d_M_exchange_20 rfl 2 rfl ?_
  refine g_getf (i := 324) (kf := 16) hX (lt_c (by decide)) rfl (lay_MO (AC := AC) (Γ := Γ)) rfl in_M (by decide) t_821 (Or.inl rfl) rfl d_M_exchange_21 ?_
  refine g_iload_n hX d_M_exchange_24 rfl 4 rfl ?_
  obtain ⟨q3, h⟩ := h
  refine g_iald (i := 338) hX (lt_c (by decide)) rfl (lay_m13 (AC := AC) (Γ := Γ)) q3 d_M_exchange_25 ?_
  obtain ⟨q4, h⟩ := h
  refine g_iast (i := 338) hX (lt_c (by decide)) rfl (lay_m13 (AC := AC) (Γ := Γ)) q4 d_M_exchange_26 (wσ_m_mcred (upd (St.I (σ) 31) (x1).toNatClampNeg (St.I (σ) 31 (x2).toNatClampNeg))) ?_
  refine g_aload_n hX d_M_exchange_27 rfl 2 rfl ?_
  refine g_getf (i := 324) (kf := 17) hX (lt_c (by decide)) rfl (lay_MO (AC := AC) (Γ := Γ)) rfl in_M (by decide) t_822 (Or.inl rfl) rfl d_M_exchange_28 ?_
  refine g_iload_n hX d_M_exchange_31 rfl 3 rfl ?_
  refine g_aload_n hX d_M_exchange_32 rfl 2 rfl ?_
  refine g_getf (i := 324) (kf := 17) hX (lt_c (by decide)) rfl (lay_MO (AC := AC) (Γ := Γ)) rfl in_M (by decide) t_822 (Or.inl rfl) rfl d_M_exchange_33 ?_
  refine g_iload_n hX d_M_exchange_36 rfl 4 rfl ?_
  obtain ⟨q5, h⟩ := h
  refine g_iald (i := 339) hX (lt_c (by decide)) rfl (lay_m14 (AC := AC) (Γ := Γ)) q5 d_M_exchange_37 ?_
  obtain ⟨q6, h⟩ := h
  refine g_iast (i := 339) hX (lt_c (by decide)) rfl (lay_m14 (AC := AC) (Γ := Γ)) q6 d_M_exchange_38 (wσ_m_mamt (upd (St.I (St.sI (σ) 31 (x1).toNatClampNeg (St.I (σ) 31 (x2).toNatClampNeg)) 32) (x1).toNatClampNeg (St.I (St.sI (σ) 31 (x1).toNatClampNeg (St.I (σ) 31 (x2).toNatClampNeg)) 32 (x2).toNatClampNeg))) ?_
  refine g_aload_n hX d_M_exchange_39 rfl 2 rfl ?_
  refine g_getf (i := 324) (kf := 16) hX (lt_c (by decide)) rfl (lay_MO (AC := AC) (Γ := Γ)) rfl in_M (by decide) t_821 (Or.inl rfl) rfl d_M_exchange_40 ?_
  refine g_iload_n hX d_M_exchange_43 rfl 4 rfl ?_
  refine g_iload_n hX d_M_exchange_44 rfl 1 rfl ?_
  obtain ⟨q7, h⟩ := h
  refine g_iast (i := 338) hX (lt_c (by decide)) rfl (lay_m13 (AC := AC) (Γ := Γ)) q7 d_M_exchange_45 (wσ_m_mcred (upd (St.I (St.sI (St.sI (σ) 31 (x1).toNatClampNeg (St.I (σ) 31 (x2).toNatClampNeg)) 32 (x1).toNatClampNeg (St.I (St.sI (σ) 31 (x1).toNatClampNeg (St.I (σ) 31 (x2).toNatClampNeg)) 32 (x2).toNatClampNeg)) 31) (x2).toNatClampNeg (St.I (σ) 31 (x1).toNatClampNeg))) ?_
  refine g_aload_n hX d_M_exchange_46 rfl 2 rfl ?_
  refine g_getf (i := 324) (kf := 17) hX (lt_c (by decide)) rfl (lay_MO (AC := AC) (Γ := Γ)) rfl in_M (by decide) t_822 (Or.inl rfl) rfl d_M_exchange_47 ?_
  refine g_iload_n hX d_M_exchange_50 rfl 4 rfl ?_
  refine g_iload hX d_M_exchange_51 0 rfl ?_
  obtain ⟨q8, h⟩ := h
  refine g_iast (i := 339) hX (lt_c (by decide)) rfl (lay_m14 (AC := AC) (Γ := Γ)) q8 d_M_exchange_53 (wσ_m_mamt (upd (St.I (St.sI (St.sI (St.sI (σ) 31 (x1).toNatClampNeg (St.I (σ) 31 (x2).toNatClampNeg)) 32 (x1).toNatClampNeg (St.I (St.sI (σ) 31 (x1).toNatClampNeg (St.I (σ) 31 (x2).toNatClampNeg)) 32 (x2).toNatClampNeg)) 31 (x2).toNatClampNeg (St.I (σ) 31 (x1).toNatClampNeg)) 32) (x2).toNatClampNeg (St.I (σ) 32 (x1).toNatClampNeg))) ?_
  exact g_vret hX rfl d_M_exchange_54 ⟨_, rfl, rfl, h⟩

def wp_M_carry_36 (Γ : Ev)  (post : St → Prop) (thr : String → St → Prop) : Nat → Int32 → Int32 → Int32 → St → Prop
  | 0 => fun _ _ _ _ => False
  | fuel + 1 => fun x1 x3 x4 σ => ((x4 ≤ x3 → post (σ)) ∧ (¬ x4 ≤ x3 → wp_M_exchange Γ ((((4 : Int32) * x1) + x4)) (((((4 : Int32) * x1) + x4) - (1 : Int32))) (σ) (fun σ4 => wp_M_carry_36 Γ  post thr fuel (x1) (x3) ((x4 + (-1))) (σ4)) thr))
def wp_M_carry_3 (Γ : Ev)  (post : St → Prop) (thr : String → St → Prop) : Nat → Int32 → Int32 → Int32 → Int32 → St → Prop
  | 0 => fun _ _ _ _ _ => False
  | fuel + 1 => fun x1 x2 x3 x4 σ => ((x3 ≤ x4 → (∃ f5, wp_M_carry_36 Γ  post thr f5 (x1) (x3) (x2) (σ))) ∧ (¬ x3 ≤ x4 → wp_M_exchange Γ ((((4 : Int32) * x1) + x4)) (((((4 : Int32) * x1) + x4) + (1 : Int32))) (σ) (fun σ7 => wp_M_carry_3 Γ  post thr fuel (x1) (x2) (x3) ((x4 + 1)) (σ7)) thr))
def wp_M_carry (Γ : Ev) (x1 : Int32) (x2 : Int32) (x3 : Int32) (σ : St) (post : St → Prop) (thr : String → St → Prop) : Prop := (∃ f8, wp_M_carry_3 Γ  post thr f8 (x1) (x2) (x3) (x2) (σ))
abbrev rm_M_carry : Room := { frames := 1, cells := 0, slots := 0, locals := 24 }
set_option maxRecDepth 100000 in
set_option maxHeartbeats 4000000 in
theorem b_M_carry_36 {p : Program} {l : Launch} {e : Env} {s : State} {m : MethodId} {args : Array Value} {below : List Frame} {meth : Method} {c : Code} {D : va_G} {AC : Nat → ClassId} {lo : Nat} {Γ : Ev} {post : St → Prop} {thr : String → St → Prop} (hX : Cx p s m args meth c y_M_carry b_M_carry 5 none [] D AC lo)   : ∀ (fuel : Nat) (x1 : Int32) (x3 : Int32) (x4 : Int32) (σ : St), wp_M_carry_36 Γ  post thr fuel x1 x3 x4 σ → G p l e rm_M_carry s m args below meth c 5 D lo (pV AC Γ post) (tX AC Γ thr) (wσ AC Γ (σ)) 0 0 36 [(0, .ref (Γ.ad 324)), (1, .int (x1)), (3, .int (x3)), (4, .int (x4))] [] := by
  intro fuel
  induction fuel with
  | zero => intro x1 x3 x4 σ h; exact False.elim h
  | succ fuel ih =>
    intro x1 x3 x4 σ h
    simp only [wp_M_carry_36] at h
    refine g_iload hX d_M_carry_36 3 rfl ?_
    refine g_iload_n hX d_M_carry_38 rfl 2 rfl ?_
    refine g_icmp_le (tgt := 66) hX d_M_carry_39 (by decide) (fun q2 => ?_) (fun q2 => ?_)
    · have h := h.1 q2
      exact g_vret hX rfl d_M_carry_66 ⟨_, rfl, rfl, h⟩
    · have h := h.2 q2
      refine g_aload_n hX d_M_carry_42 rfl 0 rfl ?_
      refine g_iconst (v := 4) hX d_M_carry_43 (by decide) ?_
      refine g_iload_n hX d_M_carry_44 rfl 1 rfl ?_
      refine g_imul hX d_M_carry_45 ?_
      refine g_iload hX d_M_carry_46 3 rfl ?_
      refine g_iadd hX d_M_carry_48 ?_
      refine g_iconst (v := 4) hX d_M_carry_49 (by decide) ?_
      refine g_iload_n hX d_M_carry_50 rfl 1 rfl ?_
      refine g_imul hX d_M_carry_51 ?_
      refine g_iload hX d_M_carry_52 3 rfl ?_
      refine g_iadd hX d_M_carry_54 ?_
      refine g_iconst (v := 1) hX d_M_carry_55 (by decide) ?_
      refine g_isub hX d_M_carry_56 ?_
      refine g_callV (i := 324) (k := 0) (n := 0) hX (c_M_exchange h) hdT_M_exchange hdO_M_exchange t_3 t_801 t_803 ts_M_exchange (lt_c (by decide)) rfl (lay_MO (AC := AC) (Γ := Γ)) rfl ⟨⟨by decide, by decide⟩, np_M_exchange⟩ ⟨Nat.le_of_ble_eq_true rfl, Nat.le_of_ble_eq_true rfl⟩ (Nat.le_of_ble_eq_true rfl) d_M_carry_57 rfl ?_ (fun _ _ z => z)
      rintro _ _ ⟨σ4, rfl, rfl, h⟩
      refine g_iinc (v := x4 + (-1)) hX d_M_carry_60 3 rfl (congrArg (x4 + ·) (by decide)) (by decide) rfl ?_
      refine g_goto (tgt := 36) hX d_M_carry_63 (by decide) ?_
      refine g_sub [1, 2, 3, 0] rfl ?_
      exact ih (x1) (x3) ((x4 + (-1))) (σ4) h
set_option maxRecDepth 100000 in
set_option maxHeartbeats 4000000 in
theorem b_M_carry_3 {p : Program} {l : Launch} {e : Env} {s : State} {m : MethodId} {args : Array Value} {below : List Frame} {meth : Method} {c : Code} {D : va_G} {AC : Nat → ClassId} {lo : Nat} {Γ : Ev} {post : St → Prop} {thr : String → St → Prop} (hX : Cx p s m args meth c y_M_carry b_M_carry 5 none [] D AC lo)   : ∀ (fuel : Nat) (x1 : Int32) (x2 : Int32) (x3 : Int32) (x4 : Int32) (σ : St), wp_M_carry_3 Γ  post thr fuel x1 x2 x3 x4 σ → G p l e rm_M_carry s m args below meth c 5 D lo (pV AC Γ post) (tX AC Γ thr) (wσ AC Γ (σ)) 0 0 3 [(0, .ref (Γ.ad 324)), (1, .int (x1)), (2, .int (x2)), (3, .int (x3)), (4, .int (x4))] [] := by
  intro fuel
  induction fuel with
  | zero => intro x1 x2 x3 x4 σ h; exact False.elim h
  | succ fuel ih =>
    intro x1 x2 x3 x4 σ h
    simp only [wp_M_carry_3] at h
    refine g_iload hX d_M_carry_3 4 rfl ?_
    refine g_iload_n hX d_M_carry_5 rfl 3 rfl ?_
    refine g_icmp_ge (tgt := 33) hX d_M_carry_6 (by decide) (fun q1 => ?_) (fun q1 => ?_)
    · have h := h.1 q1
      refine g_iload_n hX d_M_carry_33 rfl 2 rfl ?_
      refine g_istore hX d_M_carry_34 (by decide) rfl ?_
      refine g_sub [1, 2, 4, 0] rfl ?_
      obtain ⟨f5, h⟩ := h
      exact b_M_carry_36 hX  f5 _ _ _ _ h
    · have h := h.2 q1
      refine g_aload_n hX d_M_carry_9 rfl 0 rfl ?_
      refine g_iconst (v := 4) hX d_M_carry_10 (by decide) ?_
      refine g_iload_n hX d_M_carry_11 rfl 1 rfl ?_
      refine g_imul hX d_M_carry_12 ?_
      refine g_iload hX d_M_carry_13 4 rfl ?_
      refine g_iadd hX d_M_carry_15 ?_
      refine g_iconst (v := 4) hX d_M_carry_16 (by decide) ?_
      refine g_iload_n hX d_M_carry_17 rfl 1 rfl ?_
      refine g_imul hX d_M_carry_18 ?_
      refine g_iload hX d_M_carry_19 4 rfl ?_
      refine g_iadd hX d_M_carry_21 ?_
      refine g_iconst (v := 1) hX d_M_carry_22 (by decide) ?_
      refine g_iadd hX d_M_carry_23 ?_
      refine g_callV (i := 324) (k := 0) (n := 0) hX (c_M_exchange h) hdT_M_exchange hdO_M_exchange t_3 t_801 t_803 ts_M_exchange (lt_c (by decide)) rfl (lay_MO (AC := AC) (Γ := Γ)) rfl ⟨⟨by decide, by decide⟩, np_M_exchange⟩ ⟨Nat.le_of_ble_eq_true rfl, Nat.le_of_ble_eq_true rfl⟩ (Nat.le_of_ble_eq_true rfl) d_M_carry_24 rfl ?_ (fun _ _ z => z)
      rintro _ _ ⟨σ7, rfl, rfl, h⟩
      refine g_iinc (v := x4 + 1) hX d_M_carry_27 4 rfl (congrArg (x4 + ·) (by decide)) (by decide) rfl ?_
      refine g_goto (tgt := 3) hX d_M_carry_30 (by decide) ?_
      refine g_sub [1, 2, 3, 4, 0] rfl ?_
      exact ih (x1) (x2) (x3) ((x4 + 1)) (σ7) h
set_option maxRecDepth 100000 in
set_option maxHeartbeats 4000000 in
theorem c_M_carry {l : Launch} {D : va_G} {AC : Nat → ClassId} {lo : Nat} {Γ : Ev} {x1 : Int32} {x2 : Int32} {x3 : Int32} {σ : St} {post : St → Prop} {thr : String → St → Prop} (h : wp_M_carry Γ x1 x2 x3 σ post thr) : Ct l y_M_carry hd_M_carry rm_M_carry D AC lo [.ref (Γ.ad 324), .int (x1), .int (x2), .int (x3)] (wσ AC Γ σ) (pV AC Γ post) (tX AC Γ thr) := by
  refine Ct.of (by decide) (Nat.le_of_ble_eq_true rfl) ?_
  intro p e s m args below meth c hadm hX
  unfold wp_M_carry at h
  show G p l e rm_M_carry s m args below meth c 5 D lo (pV AC Γ post) (tX AC Γ thr) (wσ AC Γ (σ)) 0 0 0 [(0, .ref (Γ.ad 324)), (1, .int (x1)), (2, .int (x2)), (3, .int (x3))] []
  refine g_iload_n hX d_M_carry_0 rfl 2 rfl ?_
  refine g_istore hX d_M_carry_1 (by decide) rfl ?_
  refine g_sub [1, 2, 3, 4, 0] rfl ?_
  obtain ⟨f8, h⟩ := h
  exact b_M_carry_3 hX  f8 _ _ _ _ _ h

def wp_M_sells (Γ : Ev) (x1 : Int32) (σ : St) (post : St → Prop) (thr : String → St → Prop) : Prop := (vp_in x1 40 ∧ (vp_in x1 40 ∧ (vp_in x1 40 ∧ (vp_in x1 40 ∧ (vp_in x1 40 ∧ (vp_in (((8 : Int32) * (St.I (σ) 24 (x1).toNatClampNeg)) + ((St.I (σ) 25 (x1).toNatClampNeg) / (8 : Int32))) 640 ∧ (vp_in (((8 : Int32) * (St.I (σ) 24 (x1).toNatClampNeg)) + ((St.I (σ) 25 (x1).toNatClampNeg) / (8 : Int32))) 640 ∧ (vp_in (((8 : Int32) * (St.I (σ) 24 (x1).toNatClampNeg)) + ((St.I (σ) 25 (x1).toNatClampNeg) / (8 : Int32))) 640 ∧ wp_M_setShare Γ ((((8 : Int32) * (St.I (σ) 24 (x1).toNatClampNeg)) + ((St.I (σ) 25 (x1).toNatClampNeg) / (8 : Int32)))) ((((St.L (σ) 4 ((((8 : Int32) * (St.I (σ) 24 (x1).toNatClampNeg)) + ((St.I (σ) 25 (x1).toNatClampNeg) / (8 : Int32)))).toNatClampNeg) * (Int32.toInt64 (St.I (σ) 27 (x1).toNatClampNeg))) - ((Int32.toInt64 (St.I (σ) 26 (x1).toNatClampNeg)) * (St.L (σ) 5 ((((8 : Int32) * (St.I (σ) 24 (x1).toNatClampNeg)) + ((St.I (σ) 25 (x1).toNatClampNeg) / (8 : Int32)))).toNatClampNeg)))) (((St.L (σ) 5 ((((8 : Int32) * (St.I (σ) 24 (x1).toNatClampNeg)) + ((St.I (σ) 25 (x1).toNatClampNeg) / (8 : Int32)))).toNatClampNeg) * (Int32.toInt64 (St.I (σ) 27 (x1).toNatClampNeg)))) (σ) (fun σ10 => (vp_in (((8 : Int32) * (St.I (σ) 24 (x1).toNatClampNeg)) + ((St.I (σ) 25 (x1).toNatClampNeg) - (St.I (σ) 25 (x1).toNatClampNeg) / (8 : Int32) * (8 : Int32))) 640 ∧ (vp_in (((8 : Int32) * (St.I (σ) 24 (x1).toNatClampNeg)) + ((St.I (σ) 25 (x1).toNatClampNeg) - (St.I (σ) 25 (x1).toNatClampNeg) / (8 : Int32) * (8 : Int32))) 640 ∧ (vp_in (((8 : Int32) * (St.I (σ) 24 (x1).toNatClampNeg)) + ((St.I (σ) 25 (x1).toNatClampNeg) - (St.I (σ) 25 (x1).toNatClampNeg) / (8 : Int32) * (8 : Int32))) 640 ∧ wp_M_setShare Γ ((((8 : Int32) * (St.I (σ) 24 (x1).toNatClampNeg)) + ((St.I (σ) 25 (x1).toNatClampNeg) - (St.I (σ) 25 (x1).toNatClampNeg) / (8 : Int32) * (8 : Int32)))) ((((St.L (σ10) 4 ((((8 : Int32) * (St.I (σ) 24 (x1).toNatClampNeg)) + ((St.I (σ) 25 (x1).toNatClampNeg) - (St.I (σ) 25 (x1).toNatClampNeg) / (8 : Int32) * (8 : Int32)))).toNatClampNeg) * (Int32.toInt64 (St.I (σ) 27 (x1).toNatClampNeg))) + ((Int32.toInt64 (St.I (σ) 26 (x1).toNatClampNeg)) * (St.L (σ10) 5 ((((8 : Int32) * (St.I (σ) 24 (x1).toNatClampNeg)) + ((St.I (σ) 25 (x1).toNatClampNeg) - (St.I (σ) 25 (x1).toNatClampNeg) / (8 : Int32) * (8 : Int32)))).toNatClampNeg)))) (((St.L (σ10) 5 ((((8 : Int32) * (St.I (σ) 24 (x1).toNatClampNeg)) + ((St.I (σ) 25 (x1).toNatClampNeg) - (St.I (σ) 25 (x1).toNatClampNeg) / (8 : Int32) * (8 : Int32)))).toNatClampNeg) * (Int32.toInt64 (St.I (σ) 27 (x1).toNatClampNeg)))) (σ10) (fun σ15 => post (σ15)) thr)))) thr))))))))
abbrev rm_M_sells : Room := { frames := 2, cells := 0, slots := 0, locals := 56 }
set_option maxRecDepth 100000 in
set_option maxHeartbeats 4000000 in
theorem c_M_sells {l : Launch} {D : va_G} {AC : Nat → ClassId} {lo : Nat} {Γ : Ev} {x1 : Int32} {σ : St} {post : St → Prop} {thr : String → St → Prop} (h : wp_M_sells Γ x1 σ post thr) : Ct l y_M_sells hd_M_sells rm_M_sells D AC lo [.ref (Γ.ad 324), .int (x1)] (wσ AC Γ σ) (pV AC Γ post) (tX AC Γ thr) := by
  refine Ct.of (by decide) (Nat.le_of_ble_eq_true rfl) ?_
  intro p e s m args below meth c hadm hX
  unfold wp_M_sells at h
  show G p l e rm_M_sells s m args below meth c 9 D lo (pV AC Γ post) (tX AC Γ thr) (wσ AC Γ (σ)) 0 0 0 [(0, .ref (Γ.ad 324)), (1, .int (x1))] []
  refine g_aload_n hX d_M_sells_0 rfl 0 rfl ?_
  refine g_getf (i := 324) (kf := 6) hX (lt_c (by decide)) rfl (lay_MO (AC := AC) (Γ := Γ)) rfl in_M (by decide) t_811 (Or.inl rfl) rfl d_M_sells_1 ?_
  refine g_iload_n hX d_M_sells_4 rfl 1 rfl ?_
  obtain ⟨q1, h⟩ := h
  refine g_iald (i := 328) hX (lt_c (by decide)) rfl (lay_m3 (AC := AC) (Γ := Γ)) q1 d_M_sells_5 ?_
  refine g_istore_n hX d_M_sells_6 rfl (by decide) rfl ?_
  refine g_bipush (v := 8) hX d_M_sells_7 (by decide) ?_
  refine g_iload_n hX d_M_sells_9 rfl 0 rfl ?_
  refine g_imul hX d_M_sells_10 ?_
  refine g_aload_n hX d_M_sells_11 rfl 1 rfl ?_
  refine g_getf (i := 324) (kf := 7) hX (lt_c (by decide)) rfl (lay_MO (AC := AC) (Γ := Γ)) rfl in_M (by decide) t_812 (Or.inl rfl) rfl d_M_sells_12 ?_
  refine g_iload_n hX d_M_sells_15 rfl 2 rfl ?_
  obtain ⟨q2, h⟩ := h
  refine g_iald (i := 329) hX (lt_c (by decide)) rfl (lay_m4 (AC := AC) (Γ := Γ)) q2 d_M_sells_16 ?_
  refine g_bipush (v := 8) hX d_M_sells_17 (by decide) ?_
  refine g_idiv hX d_M_sells_19 (by decide) ?_
  refine g_iadd hX d_M_sells_20 ?_
  refine g_istore_n hX d_M_sells_21 rfl (by decide) rfl ?_
  refine g_bipush (v := 8) hX d_M_sells_22 (by decide) ?_
  refine g_iload_n hX d_M_sells_24 rfl 1 rfl ?_
  refine g_imul hX d_M_sells_25 ?_
  refine g_aload_n hX d_M_sells_26 rfl 2 rfl ?_
  refine g_getf (i := 324) (kf := 7) hX (lt_c (by decide)) rfl (lay_MO (AC := AC) (Γ := Γ)) rfl in_M (by decide) t_812 (Or.inl rfl) rfl d_M_sells_27 ?_
  refine g_iload_n hX d_M_sells_30 rfl 3 rfl ?_
  obtain ⟨q3, h⟩ := h
  refine g_iald (i := 329) hX (lt_c (by decide)) rfl (lay_m4 (AC := AC) (Γ := Γ)) q3 d_M_sells_31 ?_
  refine g_bipush (v := 8) hX d_M_sells_32 (by decide) ?_
  refine g_irem hX d_M_sells_34 (by decide) ?_
  refine g_iadd hX d_M_sells_35 ?_
  refine g_istore hX d_M_sells_36 (by decide) rfl ?_
  refine g_aload_n hX d_M_sells_38 rfl 3 rfl ?_
  refine g_getf (i := 324) (kf := 8) hX (lt_c (by decide)) rfl (lay_MO (AC := AC) (Γ := Γ)) rfl in_M (by decide) t_813 (Or.inl rfl) rfl d_M_sells_39 ?_
  refine g_iload_n hX d_M_sells_42 rfl 4 rfl ?_
  obtain ⟨q4, h⟩ := h
  refine g_iald (i := 330) hX (lt_c (by decide)) rfl (lay_m5 (AC := AC) (Γ := Γ)) q4 d_M_sells_43 ?_
  refine g_i2l hX d_M_sells_44 ?_
  refine g_lstore hX d_M_sells_45 (by decide) rfl ?_
  refine g_aload_n hX d_M_sells_47 rfl 4 rfl ?_
  refine g_getf (i := 324) (kf := 9) hX (lt_c (by decide)) rfl (lay_MO (AC := AC) (Γ := Γ)) rfl in_M (by decide) t_814 (Or.inl rfl) rfl d_M_sells_48 ?_
  refine g_iload_n hX d_M_sells_51 rfl 5 rfl ?_
  obtain ⟨q5, h⟩ := h
  refine g_iald (i := 331) hX (lt_c (by decide)) rfl (lay_m6 (AC := AC) (Γ := Γ)) q5 d_M_sells_52 ?_
  refine g_i2l hX d_M_sells_53 ?_
  refine g_lstore hX d_M_sells_54 (by decide) rfl ?_
  refine g_aload_n hX d_M_sells_56 rfl 5 rfl ?_
  refine g_iload_n hX d_M_sells_57 rfl 3 rfl ?_
  refine g_aload_n hX d_M_sells_58 rfl 5 rfl ?_
  refine g_getf (i := 324) (kf := 13) hX (lt_c (by decide)) rfl (lay_MO (AC := AC) (Γ := Γ)) rfl in_M (by decide) t_818 (Or.inl rfl) rfl d_M_sells_59 ?_
  refine g_iload_n hX d_M_sells_62 rfl 3 rfl ?_
  obtain ⟨q6, h⟩ := h
  refine g_lald (i := 335) hX (lt_c (by decide)) rfl (lay_m10 (AC := AC) (Γ := Γ)) q6 d_M_sells_63 ?_
  refine g_lload hX d_M_sells_64 0 rfl ?_
  refine g_lmul hX d_M_sells_66 ?_
  refine g_lload hX d_M_sells_67 1 rfl ?_
  refine g_aload_n hX d_M_sells_69 rfl 5 rfl ?_
  refine g_getf (i := 324) (kf := 14) hX (lt_c (by decide)) rfl (lay_MO (AC := AC) (Γ := Γ)) rfl in_M (by decide) t_819 (Or.inl rfl) rfl d_M_sells_70 ?_
  refine g_iload_n hX d_M_sells_73 rfl 3 rfl ?_
  obtain ⟨q7, h⟩ := h
  refine g_lald (i := 336) hX (lt_c (by decide)) rfl (lay_m11 (AC := AC) (Γ := Γ)) q7 d_M_sells_74 ?_
  refine g_lmul hX d_M_sells_75 ?_
  refine g_lsub hX d_M_sells_76 ?_
  refine g_aload_n hX d_M_sells_77 rfl 5 rfl ?_
  refine g_getf (i := 324) (kf := 14) hX (lt_c (by decide)) rfl (lay_MO (AC := AC) (Γ := Γ)) rfl in_M (by decide) t_819 (Or.inl rfl) rfl d_M_sells_78 ?_
  refine g_iload_n hX d_M_sells_81 rfl 3 rfl ?_
  obtain ⟨q8, h⟩ := h
  refine g_lald (i := 336) hX (lt_c (by decide)) rfl (lay_m11 (AC := AC) (Γ := Γ)) q8 d_M_sells_82 ?_
  refine g_lload hX d_M_sells_83 0 rfl ?_
  refine g_lmul hX d_M_sells_85 ?_
  refine g_callV (i := 324) (k := 0) (n := 0) hX (c_M_setShare h) hdT_M_setShare hdO_M_setShare t_3 t_793 t_795 ts_M_setShare (lt_c (by decide)) rfl (lay_MO (AC := AC) (Γ := Γ)) rfl ⟨⟨by decide, by decide⟩, np_M_setShare⟩ ⟨Nat.le_of_ble_eq_true rfl, Nat.le_of_ble_eq_true rfl⟩ (Nat.le_of_ble_eq_true rfl) d_M_sells_86 rfl ?_ (fun _ _ z => z)
  rintro _ _ ⟨σ10, rfl, rfl, h⟩
  refine g_aload_n hX d_M_sells_89 rfl 5 rfl ?_
  refine g_iload hX d_M_sells_90 2 rfl ?_
  refine g_aload_n hX d_M_sells_92 rfl 5 rfl ?_
  refine g_getf (i := 324) (kf := 13) hX (lt_c (by decide)) rfl (lay_MO (AC := AC) (Γ := Γ)) rfl in_M (by decide) t_818 (Or.inl rfl) rfl d_M_sells_93 ?_
  refine g_iload hX d_M_sells_96 2 rfl ?_
  obtain ⟨q11, h⟩ := h
  refine g_lald (i := 335) hX (lt_c (by decide)) rfl (lay_m10 (AC := AC) (Γ := Γ)) q11 d_M_sells_98 ?_
  refine g_lload hX d_M_sells_99 0 rfl ?_
  refine g_lmul hX d_M_sells_101 ?_
  refine g_lload hX d_M_sells_102 1 rfl ?_
  refine g_aload_n hX d_M_sells_104 rfl 5 rfl ?_
  refine g_getf (i := 324) (kf := 14) hX (lt_c (by decide)) rfl (lay_MO (AC := AC) (Γ := Γ)) rfl in_M (by decide) t_819 (Or.inl rfl) rfl d_M_sells_105 ?_
  refine g_iload hX d_M_sells_108 2 rfl ?_
  obtain ⟨q12, h⟩ := h
  refine g_lald (i := 336) hX (lt_c (by decide)) rfl (lay_m11 (AC := AC) (Γ := Γ)) q12 d_M_sells_110 ?_
  refine g_lmul hX d_M_sells_111 ?_
  refine g_ladd hX d_M_sells_112 ?_
  refine g_aload_n hX d_M_sells_113 rfl 5 rfl ?_
  refine g_getf (i := 324) (kf := 14) hX (lt_c (by decide)) rfl (lay_MO (AC := AC) (Γ := Γ)) rfl in_M (by decide) t_819 (Or.inl rfl) rfl d_M_sells_114 ?_
  refine g_iload hX d_M_sells_117 2 rfl ?_
  obtain ⟨q13, h⟩ := h
  refine g_lald (i := 336) hX (lt_c (by decide)) rfl (lay_m11 (AC := AC) (Γ := Γ)) q13 d_M_sells_119 ?_
  refine g_lload hX d_M_sells_120 0 rfl ?_
  refine g_lmul hX d_M_sells_122 ?_
  refine g_callV (i := 324) (k := 0) (n := 0) hX (c_M_setShare h) hdT_M_setShare hdO_M_setShare t_3 t_793 t_795 ts_M_setShare (lt_c (by decide)) rfl (lay_MO (AC := AC) (Γ := Γ)) rfl ⟨⟨by decide, by decide⟩, np_M_setShare⟩ ⟨Nat.le_of_ble_eq_true rfl, Nat.le_of_ble_eq_true rfl⟩ (Nat.le_of_ble_eq_true rfl) d_M_sells_123 rfl ?_ (fun _ _ z => z)
  rintro _ _ ⟨σ15, rfl, rfl, h⟩
  exact g_vret hX rfl d_M_sells_126 ⟨_, rfl, rfl, h⟩

def wp_M_does (Γ : Ev) (x1 : Int32) (σ : St) (post : St → Prop) (thr : String → St → Prop) : Prop := (vp_in x1 40 ∧ (vp_in x1 40 ∧ (((((St.I (σ) 21 (x1).toNatClampNeg)).toInt < 0 ∨ 7 < ((St.I (σ) 21 (x1).toNatClampNeg)).toInt) → (vp_in (St.I (σ) 24 (x1).toNatClampNeg) 80 ∧ (vp_in x1 40 ∧ (vp_in (St.I (σ) 25 (x1).toNatClampNeg) 80 ∧ wp_M_make Γ (((2 : Int32) * x1)) (((St.L (σ) 3 ((St.I (σ) 24 (x1).toNatClampNeg)).toNatClampNeg) + (St.L (σ) 3 ((St.I (σ) 25 (x1).toNatClampNeg)).toNatClampNeg))) ((St.I (σ) 24 (x1).toNatClampNeg)) (σ) (fun σ7 => (vp_in x1 40 ∧ (vp_in ((2 : Int32) * x1) 80 ∧ (vp_in (St.I (σ) 24 (x1).toNatClampNeg) 80 ∧ (vp_in x1 40 ∧ (vp_in (St.I (St.sI (St.sI (σ7) 35 (((2 : Int32) * x1)).toNatClampNeg (St.I (σ7) 25 (x1).toNatClampNeg)) 29 ((St.I (σ) 24 (x1).toNatClampNeg)).toNatClampNeg (0 : Int32)) 25 (x1).toNatClampNeg) 80 ∧ post (St.sI (St.sI (St.sI (σ7) 35 (((2 : Int32) * x1)).toNatClampNeg (St.I (σ7) 25 (x1).toNatClampNeg)) 29 ((St.I (σ) 24 (x1).toNatClampNeg)).toNatClampNeg (0 : Int32)) 29 ((St.I (St.sI (St.sI (σ7) 35 (((2 : Int32) * x1)).toNatClampNeg (St.I (σ7) 25 (x1).toNatClampNeg)) 29 ((St.I (σ) 24 (x1).toNatClampNeg)).toNatClampNeg (0 : Int32)) 25 (x1).toNatClampNeg)).toNatClampNeg (0 : Int32)))))))) thr)))) ∧ ((St.I (σ) 21 (x1).toNatClampNeg) = 0 → wp_M_make Γ (((2 : Int32) * x1)) ((Int32.toInt64 (St.I (σ) 24 (x1).toNatClampNeg))) ((-1 : Int32)) (σ) (fun σ14 => (vp_in x1 40 ∧ (vp_in (((16 : Int32) * x1) + (St.I (σ14) 25 (x1).toNatClampNeg)) 640 ∧ post (St.sL (σ14) 4 ((((16 : Int32) * x1) + (St.I (σ14) 25 (x1).toNatClampNeg))).toNatClampNeg (1 : Int64))))) thr) ∧ ((St.I (σ) 21 (x1).toNatClampNeg) = 1 → wp_M_sells Γ (x1) (σ) (fun σ18 => post (σ18)) thr) ∧ ((St.I (σ) 21 (x1).toNatClampNeg) = 2 → (vp_in (St.I (σ) 24 (x1).toNatClampNeg) 80 ∧ (vp_in x1 40 ∧ (vp_in (((4 : Int32) * (St.I (σ) 24 (x1).toNatClampNeg)) + (St.I (σ) 30 ((St.I (σ) 24 (x1).toNatClampNeg)).toNatClampNeg)) 320 ∧ (vp_in (St.I (σ) 24 (x1).toNatClampNeg) 80 ∧ (vp_in x1 40 ∧ (vp_in (((4 : Int32) * (St.I (σ) 24 (x1).toNatClampNeg)) + (St.I (St.sI (σ) 31 ((((4 : Int32) * (St.I (σ) 24 (x1).toNatClampNeg)) + (St.I (σ) 30 ((St.I (σ) 24 (x1).toNatClampNeg)).toNatClampNeg))).toNatClampNeg (St.I (σ) 25 (x1).toNatClampNeg)) 30 ((St.I (σ) 24 (x1).toNatClampNeg)).toNatClampNeg)) 320 ∧ (vp_in (St.I (σ) 24 (x1).toNatClampNeg) 80 ∧ (vp_in (St.I (σ) 24 (x1).toNatClampNeg) 80 ∧ post (St.sI (St.sI (St.sI (σ) 31 ((((4 : Int32) * (St.I (σ) 24 (x1).toNatClampNeg)) + (St.I (σ) 30 ((St.I (σ) 24 (x1).toNatClampNeg)).toNatClampNeg))).toNatClampNeg (St.I (σ) 25 (x1).toNatClampNeg)) 32 ((((4 : Int32) * (St.I (σ) 24 (x1).toNatClampNeg)) + (St.I (St.sI (σ) 31 ((((4 : Int32) * (St.I (σ) 24 (x1).toNatClampNeg)) + (St.I (σ) 30 ((St.I (σ) 24 (x1).toNatClampNeg)).toNatClampNeg))).toNatClampNeg (St.I (σ) 25 (x1).toNatClampNeg)) 30 ((St.I (σ) 24 (x1).toNatClampNeg)).toNatClampNeg))).toNatClampNeg (St.I (St.sI (σ) 31 ((((4 : Int32) * (St.I (σ) 24 (x1).toNatClampNeg)) + (St.I (σ) 30 ((St.I (σ) 24 (x1).toNatClampNeg)).toNatClampNeg))).toNatClampNeg (St.I (σ) 25 (x1).toNatClampNeg)) 26 (x1).toNatClampNeg)) 30 ((St.I (σ) 24 (x1).toNatClampNeg)).toNatClampNeg ((St.I (St.sI (St.sI (σ) 31 ((((4 : Int32) * (St.I (σ) 24 (x1).toNatClampNeg)) + (St.I (σ) 30 ((St.I (σ) 24 (x1).toNatClampNeg)).toNatClampNeg))).toNatClampNeg (St.I (σ) 25 (x1).toNatClampNeg)) 32 ((((4 : Int32) * (St.I (σ) 24 (x1).toNatClampNeg)) + (St.I (St.sI (σ) 31 ((((4 : Int32) * (St.I (σ) 24 (x1).toNatClampNeg)) + (St.I (σ) 30 ((St.I (σ) 24 (x1).toNatClampNeg)).toNatClampNeg))).toNatClampNeg (St.I (σ) 25 (x1).toNatClampNeg)) 30 ((St.I (σ) 24 (x1).toNatClampNeg)).toNatClampNeg))).toNatClampNeg (St.I (St.sI (σ) 31 ((((4 : Int32) * (St.I (σ) 24 (x1).toNatClampNeg)) + (St.I (σ) 30 ((St.I (σ) 24 (x1).toNatClampNeg)).toNatClampNeg))).toNatClampNeg (St.I (σ) 25 (x1).toNatClampNeg)) 26 (x1).toNatClampNeg)) 30 ((St.I (σ) 24 (x1).toNatClampNeg)).toNatClampNeg) + (1 : Int32)))))))))))) ∧ ((St.I (σ) 21 (x1).toNatClampNeg) = 3 → (vp_in x1 40 ∧ (vp_in x1 40 ∧ wp_M_carry Γ ((St.I (σ) 24 (x1).toNatClampNeg)) (((St.I (σ) 25 (x1).toNatClampNeg) - (1 : Int32))) (((St.I (σ) 26 (x1).toNatClampNeg) - (1 : Int32))) (σ) (fun σ30 => post (σ30)) thr))) ∧ ((St.I (σ) 21 (x1).toNatClampNeg) = 4 → (vp_in x1 40 ∧ (vp_in (St.I (σ) 24 (x1).toNatClampNeg) 80 ∧ wp_M_carry Γ ((St.I (σ) 24 (x1).toNatClampNeg)) (((St.I (σ) 25 (x1).toNatClampNeg) - (1 : Int32))) (((St.I (σ) 30 ((St.I (σ) 24 (x1).toNatClampNeg)).toNatClampNeg) - (1 : Int32))) (σ) (fun σ34 => (vp_in (St.I (σ) 24 (x1).toNatClampNeg) 80 ∧ (vp_in (St.I (σ) 24 (x1).toNatClampNeg) 80 ∧ post (St.sI (σ34) 30 ((St.I (σ) 24 (x1).toNatClampNeg)).toNatClampNeg ((St.I (σ34) 30 ((St.I (σ) 24 (x1).toNatClampNeg)).toNatClampNeg) - (1 : Int32)))))) thr))) ∧ ((St.I (σ) 21 (x1).toNatClampNeg) = 5 → (vp_in (St.I (σ) 24 (x1).toNatClampNeg) 80 ∧ (vp_in x1 40 ∧ (vp_in (St.I (σ) 24 (x1).toNatClampNeg) 80 ∧ post (St.sI (σ) 33 ((St.I (σ) 24 (x1).toNatClampNeg)).toNatClampNeg ((St.I (σ) 33 ((St.I (σ) 24 (x1).toNatClampNeg)).toNatClampNeg) ^^^ ((1 : Int32) <<< ((St.I (σ) 25 (x1).toNatClampNeg) &&& 31)))))))) ∧ ((St.I (σ) 21 (x1).toNatClampNeg) = 6 → (vp_in (St.I (σ) 24 (x1).toNatClampNeg) 80 ∧ (vp_in x1 40 ∧ (vp_in (St.I (σ) 24 (x1).toNatClampNeg) 80 ∧ post (St.sI (σ) 33 ((St.I (σ) 24 (x1).toNatClampNeg)).toNatClampNeg ((St.I (σ) 33 ((St.I (σ) 24 (x1).toNatClampNeg)).toNatClampNeg) ^^^ ((1 : Int32) <<< ((St.I (σ) 25 (x1).toNatClampNeg) &&& 31)))))))) ∧ ((St.I (σ) 21 (x1).toNatClampNeg) = 7 → (vp_in x1 40 ∧ wp_M_make Γ (((2 : Int32) * x1)) ((Int32.toInt64 (St.I (σ) 25 (x1).toNatClampNeg))) ((St.I (σ) 24 (x1).toNatClampNeg)) (σ) (fun σ45 => (vp_in (St.I (σ) 24 (x1).toNatClampNeg) 80 ∧ (vp_in x1 40 ∧ wp_M_make Γ ((((2 : Int32) * x1) + (1 : Int32))) (((St.L (σ45) 3 ((St.I (σ) 24 (x1).toNatClampNeg)).toNatClampNeg) - (Int32.toInt64 (St.I (σ45) 25 (x1).toNatClampNeg)))) ((St.I (σ) 24 (x1).toNatClampNeg)) (σ45) (fun σ49 => (vp_in (St.I (σ) 24 (x1).toNatClampNeg) 80 ∧ post (St.sI (σ49) 29 ((St.I (σ) 24 (x1).toNatClampNeg)).toNatClampNeg (0 : Int32)))) thr))) thr)))))
abbrev rm_M_does : Room := { frames := 3, cells := 0, slots := 0, locals := 84 }
set_option maxRecDepth 100000 in
set_option maxHeartbeats 4000000 in
theorem c_M_does {l : Launch} {D : va_G} {AC : Nat → ClassId} {lo : Nat} {Γ : Ev} {x1 : Int32} {σ : St} {post : St → Prop} {thr : String → St → Prop} (h : wp_M_does Γ x1 σ post thr) : Ct l y_M_does hd_M_does rm_M_does D AC lo [.ref (Γ.ad 324), .int (x1)] (wσ AC Γ σ) (pV AC Γ post) (tX AC Γ thr) := by
  refine Ct.of (by decide) (Nat.le_of_ble_eq_true rfl) ?_
  intro p e s m args below meth c hadm hX
  unfold wp_M_does at h
  show G p l e rm_M_does s m args below meth c 3 D lo (pV AC Γ post) (tX AC Γ thr) (wσ AC Γ (σ)) 0 0 0 [(0, .ref (Γ.ad 324)), (1, .int (x1))] []
  refine g_aload_n hX d_M_does_0 rfl 0 rfl ?_
  refine g_getf (i := 324) (kf := 6) hX (lt_c (by decide)) rfl (lay_MO (AC := AC) (Γ := Γ)) rfl in_M (by decide) t_811 (Or.inl rfl) rfl d_M_does_1 ?_
  refine g_iload_n hX d_M_does_4 rfl 1 rfl ?_
  obtain ⟨q1, h⟩ := h
  refine g_iald (i := 328) hX (lt_c (by decide)) rfl (lay_m3 (AC := AC) (Γ := Γ)) q1 d_M_does_5 ?_
  refine g_istore_n hX d_M_does_6 rfl (by decide) rfl ?_
  refine g_aload_n hX d_M_does_7 rfl 1 rfl ?_
  refine g_getf (i := 324) (kf := 3) hX (lt_c (by decide)) rfl (lay_MO (AC := AC) (Γ := Γ)) rfl in_M (by decide) t_808 (Or.inl rfl) rfl d_M_does_8 ?_
  refine g_iload_n hX d_M_does_11 rfl 2 rfl ?_
  obtain ⟨q2, h⟩ := h
  refine g_iald (i := 325) hX (lt_c (by decide)) rfl (lay_m0 (AC := AC) (Γ := Γ)) q2 d_M_does_12 ?_
  rcases sw_0_7 ((St.I (σ) 21 (x1).toNatClampNeg)) with hx | hx | hx | hx | hx | hx | hx | hx | hx
  · have h := h.1 hx
    refine g_tableOut (tgt := 284) hX d_M_does_13 hx (by decide) ?_
    refine g_aload_n hX d_M_does_284 rfl 1 rfl ?_
    refine g_iconst (v := 2) hX d_M_does_285 (by decide) ?_
    refine g_iload_n hX d_M_does_286 rfl 2 rfl ?_
    refine g_imul hX d_M_does_287 ?_
    refine g_aload_n hX d_M_does_288 rfl 1 rfl ?_
    refine g_getf (i := 324) (kf := 12) hX (lt_c (by decide)) rfl (lay_MO (AC := AC) (Γ := Γ)) rfl in_M (by decide) t_817 (Or.inl rfl) rfl d_M_does_289 ?_
    refine g_iload_n hX d_M_does_292 rfl 0 rfl ?_
    obtain ⟨q3, h⟩ := h
    refine g_lald (i := 334) hX (lt_c (by decide)) rfl (lay_m9 (AC := AC) (Γ := Γ)) q3 d_M_does_293 ?_
    refine g_aload_n hX d_M_does_294 rfl 1 rfl ?_
    refine g_getf (i := 324) (kf := 12) hX (lt_c (by decide)) rfl (lay_MO (AC := AC) (Γ := Γ)) rfl in_M (by decide) t_817 (Or.inl rfl) rfl d_M_does_295 ?_
    refine g_aload_n hX d_M_does_298 rfl 1 rfl ?_
    refine g_getf (i := 324) (kf := 7) hX (lt_c (by decide)) rfl (lay_MO (AC := AC) (Γ := Γ)) rfl in_M (by decide) t_812 (Or.inl rfl) rfl d_M_does_299 ?_
    refine g_iload_n hX d_M_does_302 rfl 2 rfl ?_
    obtain ⟨q4, h⟩ := h
    refine g_iald (i := 329) hX (lt_c (by decide)) rfl (lay_m4 (AC := AC) (Γ := Γ)) q4 d_M_does_303 ?_
    obtain ⟨q5, h⟩ := h
    refine g_lald (i := 334) hX (lt_c (by decide)) rfl (lay_m9 (AC := AC) (Γ := Γ)) q5 d_M_does_304 ?_
    refine g_ladd hX d_M_does_305 ?_
    refine g_iload_n hX d_M_does_306 rfl 0 rfl ?_
    refine g_callV (i := 324) (k := 0) (n := 0) hX (c_M_make h) hdT_M_make hdO_M_make t_3 t_785 t_787 ts_M_make (lt_c (by decide)) rfl (lay_MO (AC := AC) (Γ := Γ)) rfl ⟨⟨by decide, by decide⟩, np_M_make⟩ ⟨Nat.le_of_ble_eq_true rfl, Nat.le_of_ble_eq_true rfl⟩ (Nat.le_of_ble_eq_true rfl) d_M_does_307 rfl ?_ (fun _ _ z => z)
    rintro _ _ ⟨σ7, rfl, rfl, h⟩
    refine g_aload_n hX d_M_does_310 rfl 1 rfl ?_
    refine g_getf (i := 324) (kf := 20) hX (lt_c (by decide)) rfl (lay_MO (AC := AC) (Γ := Γ)) rfl in_M (by decide) t_825 (Or.inl rfl) rfl d_M_does_311 ?_
    refine g_iconst (v := 2) hX d_M_does_314 (by decide) ?_
    refine g_iload_n hX d_M_does_315 rfl 2 rfl ?_
    refine g_imul hX d_M_does_316 ?_
    refine g_aload_n hX d_M_does_317 rfl 1 rfl ?_
    refine g_getf (i := 324) (kf := 7) hX (lt_c (by decide)) rfl (lay_MO (AC := AC) (Γ := Γ)) rfl in_M (by decide) t_812 (Or.inl rfl) rfl d_M_does_318 ?_
    refine g_iload_n hX d_M_does_321 rfl 2 rfl ?_
    obtain ⟨q8, h⟩ := h
    refine g_iald (i := 329) hX (lt_c (by decide)) rfl (lay_m4 (AC := AC) (Γ := Γ)) q8 d_M_does_322 ?_
    obtain ⟨q9, h⟩ := h
    refine g_iast (i := 342) hX (lt_c (by decide)) rfl (lay_m17 (AC := AC) (Γ := Γ)) q9 d_M_does_323 (wσ_m_also (upd (St.I (σ7) 35) (((2 : Int32) * x1)).toNatClampNeg (St.I (σ7) 25 (x1).toNatClampNeg))) ?_
    refine g_aload_n hX d_M_does_324 rfl 1 rfl ?_
    refine g_getf (i := 324) (kf := 11) hX (lt_c (by decide)) rfl (lay_MO (AC := AC) (Γ := Γ)) rfl in_M (by decide) t_816 (Or.inl rfl) rfl d_M_does_325 ?_
    refine g_iload_n hX d_M_does_328 rfl 0 rfl ?_
    refine g_iconst (v := 0) hX d_M_does_329 (by decide) ?_
    obtain ⟨q10, h⟩ := h
    refine g_zast (i := 333) hX (lt_c (by decide)) rfl (lay_m8 (AC := AC) (Γ := Γ)) q10 d_M_does_330 (wσ_m_mlives (upd (St.I (St.sI (σ7) 35 (((2 : Int32) * x1)).toNatClampNeg (St.I (σ7) 25 (x1).toNatClampNeg)) 29) ((St.I (σ) 24 (x1).toNatClampNeg)).toNatClampNeg (0 : Int32))) ?_
    refine g_aload_n hX d_M_does_331 rfl 1 rfl ?_
    refine g_getf (i := 324) (kf := 11) hX (lt_c (by decide)) rfl (lay_MO (AC := AC) (Γ := Γ)) rfl in_M (by decide) t_816 (Or.inl rfl) rfl d_M_does_332 ?_
    refine g_aload_n hX d_M_does_335 rfl 1 rfl ?_
    refine g_getf (i := 324) (kf := 7) hX (lt_c (by decide)) rfl (lay_MO (AC := AC) (Γ := Γ)) rfl in_M (by decide) t_812 (Or.inl rfl) rfl d_M_does_336 ?_
    refine g_iload_n hX d_M_does_339 rfl 2 rfl ?_
    obtain ⟨q11, h⟩ := h
    refine g_iald (i := 329) hX (lt_c (by decide)) rfl (lay_m4 (AC := AC) (Γ := Γ)) q11 d_M_does_340 ?_
    refine g_iconst (v := 0) hX d_M_does_341 (by decide) ?_
    obtain ⟨q12, h⟩ := h
    refine g_zast (i := 333) hX (lt_c (by decide)) rfl (lay_m8 (AC := AC) (Γ := Γ)) q12 d_M_does_342 (wσ_m_mlives (upd (St.I (St.sI (St.sI (σ7) 35 (((2 : Int32) * x1)).toNatClampNeg (St.I (σ7) 25 (x1).toNatClampNeg)) 29 ((St.I (σ) 24 (x1).toNatClampNeg)).toNatClampNeg (0 : Int32)) 29) ((St.I (St.sI (St.sI (σ7) 35 (((2 : Int32) * x1)).toNatClampNeg (St.I (σ7) 25 (x1).toNatClampNeg)) 29 ((St.I (σ) 24 (x1).toNatClampNeg)).toNatClampNeg (0 : Int32)) 25 (x1).toNatClampNeg)).toNatClampNeg (0 : Int32))) ?_
    exact g_vret hX rfl d_M_does_343 ⟨_, rfl, rfl, h⟩
  · have h := h.2.1 hx
    refine g_tableIn (tgt := 60) hX d_M_does_13 (by rw [hx]; decide) (by rw [hx]; decide) (by rw [hx]; rfl) (by decide) ?_
    refine g_aload_n hX d_M_does_60 rfl 1 rfl ?_
    refine g_iconst (v := 2) hX d_M_does_61 (by decide) ?_
    refine g_iload_n hX d_M_does_62 rfl 2 rfl ?_
    refine g_imul hX d_M_does_63 ?_
    refine g_iload_n hX d_M_does_64 rfl 0 rfl ?_
    refine g_i2l hX d_M_does_65 ?_
    refine g_iconst (v := -1) hX d_M_does_66 (by decide) ?_
    refine g_callV (i := 324) (k := 0) (n := 0) hX (c_M_make h) hdT_M_make hdO_M_make t_3 t_785 t_787 ts_M_make (lt_c (by decide)) rfl (lay_MO (AC := AC) (Γ := Γ)) rfl ⟨⟨by decide, by decide⟩, np_M_make⟩ ⟨Nat.le_of_ble_eq_true rfl, Nat.le_of_ble_eq_true rfl⟩ (Nat.le_of_ble_eq_true rfl) d_M_does_67 rfl ?_ (fun _ _ z => z)
    rintro _ _ ⟨σ14, rfl, rfl, h⟩
    refine g_aload_n hX d_M_does_70 rfl 1 rfl ?_
    refine g_getf (i := 324) (kf := 13) hX (lt_c (by decide)) rfl (lay_MO (AC := AC) (Γ := Γ)) rfl in_M (by decide) t_818 (Or.inl rfl) rfl d_M_does_71 ?_
    refine g_bipush (v := 16) hX d_M_does_74 (by decide) ?_
    refine g_iload_n hX d_M_does_76 rfl 2 rfl ?_
    refine g_imul hX d_M_does_77 ?_
    refine g_aload_n hX d_M_does_78 rfl 1 rfl ?_
    refine g_getf (i := 324) (kf := 7) hX (lt_c (by decide)) rfl (lay_MO (AC := AC) (Γ := Γ)) rfl in_M (by decide) t_812 (Or.inl rfl) rfl d_M_does_79 ?_
    refine g_iload_n hX d_M_does_82 rfl 2 rfl ?_
    obtain ⟨q15, h⟩ := h
    refine g_iald (i := 329) hX (lt_c (by decide)) rfl (lay_m4 (AC := AC) (Γ := Γ)) q15 d_M_does_83 ?_
    refine g_iadd hX d_M_does_84 ?_
    refine g_lconst (v := 1) hX d_M_does_85 (by decide) ?_
    obtain ⟨q16, h⟩ := h
    refine g_last (i := 335) hX (lt_c (by decide)) rfl (lay_m10 (AC := AC) (Γ := Γ)) q16 d_M_does_86 (wσ_m_tops (vp_updL (St.L (σ14) 4) ((((16 : Int32) * x1) + (St.I (σ14) 25 (x1).toNatClampNeg))).toNatClampNeg (1 : Int64))) ?_
    refine g_goto (tgt := 343) hX d_M_does_87 (by decide) ?_
    exact g_vret hX rfl d_M_does_343 ⟨_, rfl, rfl, h⟩
  · have h := h.2.2.1 hx
    refine g_tableIn (tgt := 90) hX d_M_does_13 (by rw [hx]; decide) (by rw [hx]; decide) (by rw [hx]; rfl) (by decide) ?_
    refine g_aload_n hX d_M_does_90 rfl 1 rfl ?_
    refine g_iload_n hX d_M_does_91 rfl 2 rfl ?_
    refine g_callV (i := 324) (k := 0) (n := 0) hX (c_M_sells h) hdT_M_sells hdO_M_sells t_3 t_789 t_791 ts_M_sells (lt_c (by decide)) rfl (lay_MO (AC := AC) (Γ := Γ)) rfl ⟨⟨by decide, by decide⟩, np_M_sells⟩ ⟨Nat.le_of_ble_eq_true rfl, Nat.le_of_ble_eq_true rfl⟩ (Nat.le_of_ble_eq_true rfl) d_M_does_92 rfl ?_ (fun _ _ z => z)
    rintro _ _ ⟨σ18, rfl, rfl, h⟩
    refine g_goto (tgt := 343) hX d_M_does_95 (by decide) ?_
    exact g_vret hX rfl d_M_does_343 ⟨_, rfl, rfl, h⟩
  · have h := h.2.2.2.1 hx
    refine g_tableIn (tgt := 98) hX d_M_does_13 (by rw [hx]; decide) (by rw [hx]; decide) (by rw [hx]; rfl) (by decide) ?_
    refine g_aload_n hX d_M_does_98 rfl 1 rfl ?_
    refine g_getf (i := 324) (kf := 16) hX (lt_c (by decide)) rfl (lay_MO (AC := AC) (Γ := Γ)) rfl in_M (by decide) t_821 (Or.inl rfl) rfl d_M_does_99 ?_
    refine g_iconst (v := 4) hX d_M_does_102 (by decide) ?_
    refine g_iload_n hX d_M_does_103 rfl 0 rfl ?_
    refine g_imul hX d_M_does_104 ?_
    refine g_aload_n hX d_M_does_105 rfl 1 rfl ?_
    refine g_getf (i := 324) (kf := 15) hX (lt_c (by decide)) rfl (lay_MO (AC := AC) (Γ := Γ)) rfl in_M (by decide) t_820 (Or.inl rfl) rfl d_M_does_106 ?_
    refine g_iload_n hX d_M_does_109 rfl 0 rfl ?_
    obtain ⟨q19, h⟩ := h
    refine g_iald (i := 337) hX (lt_c (by decide)) rfl (lay_m12 (AC := AC) (Γ := Γ)) q19 d_M_does_110 ?_
    refine g_iadd hX d_M_does_111 ?_
    refine g_aload_n hX d_M_does_112 rfl 1 rfl ?_
    refine g_getf (i := 324) (kf := 7) hX (lt_c (by decide)) rfl (lay_MO (AC := AC) (Γ := Γ)) rfl in_M (by decide) t_812 (Or.inl rfl) rfl d_M_does_113 ?_
    refine g_iload_n hX d_M_does_116 rfl 2 rfl ?_
    obtain ⟨q20, h⟩ := h
    refine g_iald (i := 329) hX (lt_c (by decide)) rfl (lay_m4 (AC := AC) (Γ := Γ)) q20 d_M_does_117 ?_
    obtain ⟨q21, h⟩ := h
    refine g_iast (i := 338) hX (lt_c (by decide)) rfl (lay_m13 (AC := AC) (Γ := Γ)) q21 d_M_does_118 (wσ_m_mcred (upd (St.I (σ) 31) ((((4 : Int32) * (St.I (σ) 24 (x1).toNatClampNeg)) + (St.I (σ) 30 ((St.I (σ) 24 (x1).toNatClampNeg)).toNatClampNeg))).toNatClampNeg (St.I (σ) 25 (x1).toNatClampNeg))) ?_
    refine g_aload_n hX d_M_does_119 rfl 1 rfl ?_
    refine g_getf (i := 324) (kf := 17) hX (lt_c (by decide)) rfl (lay_MO (AC := AC) (Γ := Γ)) rfl in_M (by decide) t_822 (Or.inl rfl) rfl d_M_does_120 ?_
    refine g_iconst (v := 4) hX d_M_does_123 (by decide) ?_
    refine g_iload_n hX d_M_does_124 rfl 0 rfl ?_
    refine g_imul hX d_M_does_125 ?_
    refine g_aload_n hX d_M_does_126 rfl 1 rfl ?_
    refine g_getf (i := 324) (kf := 15) hX (lt_c (by decide)) rfl (lay_MO (AC := AC) (Γ := Γ)) rfl in_M (by decide) t_820 (Or.inl rfl) rfl d_M_does_127 ?_
    refine g_iload_n hX d_M_does_130 rfl 0 rfl ?_
    obtain ⟨q22, h⟩ := h
    refine g_iald (i := 337) hX (lt_c (by decide)) rfl (lay_m12 (AC := AC) (Γ := Γ)) q22 d_M_does_131 ?_
    refine g_iadd hX d_M_does_132 ?_
    refine g_aload_n hX d_M_does_133 rfl 1 rfl ?_
    refine g_getf (i := 324) (kf := 8) hX (lt_c (by decide)) rfl (lay_MO (AC := AC) (Γ := Γ)) rfl in_M (by decide) t_813 (Or.inl rfl) rfl d_M_does_134 ?_
    refine g_iload_n hX d_M_does_137 rfl 2 rfl ?_
    obtain ⟨q23, h⟩ := h
    refine g_iald (i := 330) hX (lt_c (by decide)) rfl (lay_m5 (AC := AC) (Γ := Γ)) q23 d_M_does_138 ?_
    obtain ⟨q24, h⟩ := h
    refine g_iast (i := 339) hX (lt_c (by decide)) rfl (lay_m14 (AC := AC) (Γ := Γ)) q24 d_M_does_139 (wσ_m_mamt (upd (St.I (St.sI (σ) 31 ((((4 : Int32) * (St.I (σ) 24 (x1).toNatClampNeg)) + (St.I (σ) 30 ((St.I (σ) 24 (x1).toNatClampNeg)).toNatClampNeg))).toNatClampNeg (St.I (σ) 25 (x1).toNatClampNeg)) 32) ((((4 : Int32) * (St.I (σ) 24 (x1).toNatClampNeg)) + (St.I (St.sI (σ) 31 ((((4 : Int32) * (St.I (σ) 24 (x1).toNatClampNeg)) + (St.I (σ) 30 ((St.I (σ) 24 (x1).toNatClampNeg)).toNatClampNeg))).toNatClampNeg (St.I (σ) 25 (x1).toNatClampNeg)) 30 ((St.I (σ) 24 (x1).toNatClampNeg)).toNatClampNeg))).toNatClampNeg (St.I (St.sI (σ) 31 ((((4 : Int32) * (St.I (σ) 24 (x1).toNatClampNeg)) + (St.I (σ) 30 ((St.I (σ) 24 (x1).toNatClampNeg)).toNatClampNeg))).toNatClampNeg (St.I (σ) 25 (x1).toNatClampNeg)) 26 (x1).toNatClampNeg))) ?_
    refine g_aload_n hX d_M_does_140 rfl 1 rfl ?_
    refine g_getf (i := 324) (kf := 15) hX (lt_c (by decide)) rfl (lay_MO (AC := AC) (Γ := Γ)) rfl in_M (by decide) t_820 (Or.inl rfl) rfl d_M_does_141 ?_
    refine g_iload_n hX d_M_does_144 rfl 0 rfl ?_
    refine g_dup2 hX d_M_does_145 rfl rfl ?_
    obtain ⟨q25, h⟩ := h
    refine g_iald (i := 337) hX (lt_c (by decide)) rfl (lay_m12 (AC := AC) (Γ := Γ)) q25 d_M_does_146 ?_
    refine g_iconst (v := 1) hX d_M_does_147 (by decide) ?_
    refine g_iadd hX d_M_does_148 ?_
    obtain ⟨q26, h⟩ := h
    refine g_iast (i := 337) hX (lt_c (by decide)) rfl (lay_m12 (AC := AC) (Γ := Γ)) q26 d_M_does_149 (wσ_m_many (upd (St.I (St.sI (St.sI (σ) 31 ((((4 : Int32) * (St.I (σ) 24 (x1).toNatClampNeg)) + (St.I (σ) 30 ((St.I (σ) 24 (x1).toNatClampNeg)).toNatClampNeg))).toNatClampNeg (St.I (σ) 25 (x1).toNatClampNeg)) 32 ((((4 : Int32) * (St.I (σ) 24 (x1).toNatClampNeg)) + (St.I (St.sI (σ) 31 ((((4 : Int32) * (St.I (σ) 24 (x1).toNatClampNeg)) + (St.I (σ) 30 ((St.I (σ) 24 (x1).toNatClampNeg)).toNatClampNeg))).toNatClampNeg (St.I (σ) 25 (x1).toNatClampNeg)) 30 ((St.I (σ) 24 (x1).toNatClampNeg)).toNatClampNeg))).toNatClampNeg (St.I (St.sI (σ) 31 ((((4 : Int32) * (St.I (σ) 24 (x1).toNatClampNeg)) + (St.I (σ) 30 ((St.I (σ) 24 (x1).toNatClampNeg)).toNatClampNeg))).toNatClampNeg (St.I (σ) 25 (x1).toNatClampNeg)) 26 (x1).toNatClampNeg)) 30) ((St.I (σ) 24 (x1).toNatClampNeg)).toNatClampNeg ((St.I (St.sI (St.sI (σ) 31 ((((4 : Int32) * (St.I (σ) 24 (x1).toNatClampNeg)) + (St.I (σ) 30 ((St.I (σ) 24 (x1).toNatClampNeg)).toNatClampNeg))).toNatClampNeg (St.I (σ) 25 (x1).toNatClampNeg)) 32 ((((4 : Int32) * (St.I (σ) 24 (x1).toNatClampNeg)) + (St.I (St.sI (σ) 31 ((((4 : Int32) * (St.I (σ) 24 (x1).toNatClampNeg)) + (St.I (σ) 30 ((St.I (σ) 24 (x1).toNatClampNeg)).toNatClampNeg))).toNatClampNeg (St.I (σ) 25 (x1).toNatClampNeg)) 30 ((St.I (σ) 24 (x1).toNatClampNeg)).toNatClampNeg))).toNatClampNeg (St.I (St.sI (σ) 31 ((((4 : Int32) * (St.I (σ) 24 (x1).toNatClampNeg)) + (St.I (σ) 30 ((St.I (σ) 24 (x1).toNatClampNeg)).toNatClampNeg))).toNatClampNeg (St.I (σ) 25 (x1).toNatClampNeg)) 26 (x1).toNatClampNeg)) 30 ((St.I (σ) 24 (x1).toNatClampNeg)).toNatClampNeg) + (1 : Int32)))) ?_
    refine g_goto (tgt := 343) hX d_M_does_150 (by decide) ?_
    exact g_vret hX rfl d_M_does_343 ⟨_, rfl, rfl, h⟩
  · have h := h.2.2.2.2.1 hx
    refine g_tableIn (tgt := 153) hX d_M_does_13 (by rw [hx]; decide) (by rw [hx]; decide) (by rw [hx]; rfl) (by decide) ?_
    refine g_aload_n hX d_M_does_153 rfl 1 rfl ?_
    refine g_iload_n hX d_M_does_154 rfl 0 rfl ?_
    refine g_aload_n hX d_M_does_155 rfl 1 rfl ?_
    refine g_getf (i := 324) (kf := 7) hX (lt_c (by decide)) rfl (lay_MO (AC := AC) (Γ := Γ)) rfl in_M (by decide) t_812 (Or.inl rfl) rfl d_M_does_156 ?_
    refine g_iload_n hX d_M_does_159 rfl 2 rfl ?_
    obtain ⟨q27, h⟩ := h
    refine g_iald (i := 329) hX (lt_c (by decide)) rfl (lay_m4 (AC := AC) (Γ := Γ)) q27 d_M_does_160 ?_
    refine g_iconst (v := 1) hX d_M_does_161 (by decide) ?_
    refine g_isub hX d_M_does_162 ?_
    refine g_aload_n hX d_M_does_163 rfl 1 rfl ?_
    refine g_getf (i := 324) (kf := 8) hX (lt_c (by decide)) rfl (lay_MO (AC := AC) (Γ := Γ)) rfl in_M (by decide) t_813 (Or.inl rfl) rfl d_M_does_164 ?_
    refine g_iload_n hX d_M_does_167 rfl 2 rfl ?_
    obtain ⟨q28, h⟩ := h
    refine g_iald (i := 330) hX (lt_c (by decide)) rfl (lay_m5 (AC := AC) (Γ := Γ)) q28 d_M_does_168 ?_
    refine g_iconst (v := 1) hX d_M_does_169 (by decide) ?_
    refine g_isub hX d_M_does_170 ?_
    refine g_callV (i := 324) (k := 0) (n := 0) hX (c_M_carry h) hdT_M_carry hdO_M_carry t_3 t_797 t_799 ts_M_carry (lt_c (by decide)) rfl (lay_MO (AC := AC) (Γ := Γ)) rfl ⟨⟨by decide, by decide⟩, np_M_carry⟩ ⟨Nat.le_of_ble_eq_true rfl, Nat.le_of_ble_eq_true rfl⟩ (Nat.le_of_ble_eq_true rfl) d_M_does_171 rfl ?_ (fun _ _ z => z)
    rintro _ _ ⟨σ30, rfl, rfl, h⟩
    refine g_goto (tgt := 343) hX d_M_does_174 (by decide) ?_
    exact g_vret hX rfl d_M_does_343 ⟨_, rfl, rfl, h⟩
  · have h := h.2.2.2.2.2.1 hx
    refine g_tableIn (tgt := 177) hX d_M_does_13 (by rw [hx]; decide) (by rw [hx]; decide) (by rw [hx]; rfl) (by decide) ?_
    refine g_aload_n hX d_M_does_177 rfl 1 rfl ?_
    refine g_iload_n hX d_M_does_178 rfl 0 rfl ?_
    refine g_aload_n hX d_M_does_179 rfl 1 rfl ?_
    refine g_getf (i := 324) (kf := 7) hX (lt_c (by decide)) rfl (lay_MO (AC := AC) (Γ := Γ)) rfl in_M (by decide) t_812 (Or.inl rfl) rfl d_M_does_180 ?_
    refine g_iload_n hX d_M_does_183 rfl 2 rfl ?_
    obtain ⟨q31, h⟩ := h
    refine g_iald (i := 329) hX (lt_c (by decide)) rfl (lay_m4 (AC := AC) (Γ := Γ)) q31 d_M_does_184 ?_
    refine g_iconst (v := 1) hX d_M_does_185 (by decide) ?_
    refine g_isub hX d_M_does_186 ?_
    refine g_aload_n hX d_M_does_187 rfl 1 rfl ?_
    refine g_getf (i := 324) (kf := 15) hX (lt_c (by decide)) rfl (lay_MO (AC := AC) (Γ := Γ)) rfl in_M (by decide) t_820 (Or.inl rfl) rfl d_M_does_188 ?_
    refine g_iload_n hX d_M_does_191 rfl 0 rfl ?_
    obtain ⟨q32, h⟩ := h
    refine g_iald (i := 337) hX (lt_c (by decide)) rfl (lay_m12 (AC := AC) (Γ := Γ)) q32 d_M_does_192 ?_
    refine g_iconst (v := 1) hX d_M_does_193 (by decide) ?_
    refine g_isub hX d_M_does_194 ?_
    refine g_callV (i := 324) (k := 0) (n := 0) hX (c_M_carry h) hdT_M_carry hdO_M_carry t_3 t_797 t_799 ts_M_carry (lt_c (by decide)) rfl (lay_MO (AC := AC) (Γ := Γ)) rfl ⟨⟨by decide, by decide⟩, np_M_carry⟩ ⟨Nat.le_of_ble_eq_true rfl, Nat.le_of_ble_eq_true rfl⟩ (Nat.le_of_ble_eq_true rfl) d_M_does_195 rfl ?_ (fun _ _ z => z)
    rintro _ _ ⟨σ34, rfl, rfl, h⟩
    refine g_aload_n hX d_M_does_198 rfl 1 rfl ?_
    refine g_getf (i := 324) (kf := 15) hX (lt_c (by decide)) rfl (lay_MO (AC := AC) (Γ := Γ)) rfl in_M (by decide) t_820 (Or.inl rfl) rfl d_M_does_199 ?_
    refine g_iload_n hX d_M_does_202 rfl 0 rfl ?_
    refine g_dup2 hX d_M_does_203 rfl rfl ?_
    obtain ⟨q35, h⟩ := h
    refine g_iald (i := 337) hX (lt_c (by decide)) rfl (lay_m12 (AC := AC) (Γ := Γ)) q35 d_M_does_204 ?_
    refine g_iconst (v := 1) hX d_M_does_205 (by decide) ?_
    refine g_isub hX d_M_does_206 ?_
    obtain ⟨q36, h⟩ := h
    refine g_iast (i := 337) hX (lt_c (by decide)) rfl (lay_m12 (AC := AC) (Γ := Γ)) q36 d_M_does_207 (wσ_m_many (upd (St.I (σ34) 30) ((St.I (σ) 24 (x1).toNatClampNeg)).toNatClampNeg ((St.I (σ34) 30 ((St.I (σ) 24 (x1).toNatClampNeg)).toNatClampNeg) - (1 : Int32)))) ?_
    refine g_goto (tgt := 343) hX d_M_does_208 (by decide) ?_
    exact g_vret hX rfl d_M_does_343 ⟨_, rfl, rfl, h⟩
  · have h := h.2.2.2.2.2.2.1 hx
    refine g_tableIn (tgt := 211) hX d_M_does_13 (by rw [hx]; decide) (by rw [hx]; decide) (by rw [hx]; rfl) (by decide) ?_
    refine g_aload_n hX d_M_does_211 rfl 1 rfl ?_
    refine g_getf (i := 324) (kf := 18) hX (lt_c (by decide)) rfl (lay_MO (AC := AC) (Γ := Γ)) rfl in_M (by decide) t_823 (Or.inl rfl) rfl d_M_does_212 ?_
    refine g_iload_n hX d_M_does_215 rfl 0 rfl ?_
    refine g_aload_n hX d_M_does_216 rfl 1 rfl ?_
    refine g_getf (i := 324) (kf := 18) hX (lt_c (by decide)) rfl (lay_MO (AC := AC) (Γ := Γ)) rfl in_M (by decide) t_823 (Or.inl rfl) rfl d_M_does_217 ?_
    refine g_iload_n hX d_M_does_220 rfl 0 rfl ?_
    obtain ⟨q37, h⟩ := h
    refine g_iald (i := 340) hX (lt_c (by decide)) rfl (lay_m15 (AC := AC) (Γ := Γ)) q37 d_M_does_221 ?_
    refine g_iconst (v := 1) hX d_M_does_222 (by decide) ?_
    refine g_aload_n hX d_M_does_223 rfl 1 rfl ?_
    refine g_getf (i := 324) (kf := 7) hX (lt_c (by decide)) rfl (lay_MO (AC := AC) (Γ := Γ)) rfl in_M (by decide) t_812 (Or.inl rfl) rfl d_M_does_224 ?_
    refine g_iload_n hX d_M_does_227 rfl 2 rfl ?_
    obtain ⟨q38, h⟩ := h
    refine g_iald (i := 329) hX (lt_c (by decide)) rfl (lay_m4 (AC := AC) (Γ := Γ)) q38 d_M_does_228 ?_
    refine g_ishl hX d_M_does_229 ?_
    refine g_ixor hX d_M_does_230 ?_
    obtain ⟨q39, h⟩ := h
    refine g_iast (i := 340) hX (lt_c (by decide)) rfl (lay_m15 (AC := AC) (Γ := Γ)) q39 d_M_does_231 (wσ_m_warned (upd (St.I (σ) 33) ((St.I (σ) 24 (x1).toNatClampNeg)).toNatClampNeg ((St.I (σ) 33 ((St.I (σ) 24 (x1).toNatClampNeg)).toNatClampNeg) ^^^ ((1 : Int32) <<< ((St.I (σ) 25 (x1).toNatClampNeg) &&& 31))))) ?_
    refine g_goto (tgt := 343) hX d_M_does_232 (by decide) ?_
    exact g_vret hX rfl d_M_does_343 ⟨_, rfl, rfl, h⟩
  · have h := h.2.2.2.2.2.2.2.1 hx
    refine g_tableIn (tgt := 211) hX d_M_does_13 (by rw [hx]; decide) (by rw [hx]; decide) (by rw [hx]; rfl) (by decide) ?_
    refine g_aload_n hX d_M_does_211 rfl 1 rfl ?_
    refine g_getf (i := 324) (kf := 18) hX (lt_c (by decide)) rfl (lay_MO (AC := AC) (Γ := Γ)) rfl in_M (by decide) t_823 (Or.inl rfl) rfl d_M_does_212 ?_
    refine g_iload_n hX d_M_does_215 rfl 0 rfl ?_
    refine g_aload_n hX d_M_does_216 rfl 1 rfl ?_
    refine g_getf (i := 324) (kf := 18) hX (lt_c (by decide)) rfl (lay_MO (AC := AC) (Γ := Γ)) rfl in_M (by decide) t_823 (Or.inl rfl) rfl d_M_does_217 ?_
    refine g_iload_n hX d_M_does_220 rfl 0 rfl ?_
    obtain ⟨q40, h⟩ := h
    refine g_iald (i := 340) hX (lt_c (by decide)) rfl (lay_m15 (AC := AC) (Γ := Γ)) q40 d_M_does_221 ?_
    refine g_iconst (v := 1) hX d_M_does_222 (by decide) ?_
    refine g_aload_n hX d_M_does_223 rfl 1 rfl ?_
    refine g_getf (i := 324) (kf := 7) hX (lt_c (by decide)) rfl (lay_MO (AC := AC) (Γ := Γ)) rfl in_M (by decide) t_812 (Or.inl rfl) rfl d_M_does_224 ?_
    refine g_iload_n hX d_M_does_227 rfl 2 rfl ?_
    obtain ⟨q41, h⟩ := h
    refine g_iald (i := 329) hX (lt_c (by decide)) rfl (lay_m4 (AC := AC) (Γ := Γ)) q41 d_M_does_228 ?_
    refine g_ishl hX d_M_does_229 ?_
    refine g_ixor hX d_M_does_230 ?_
    obtain ⟨q42, h⟩ := h
    refine g_iast (i := 340) hX (lt_c (by decide)) rfl (lay_m15 (AC := AC) (Γ := Γ)) q42 d_M_does_231 (wσ_m_warned (upd (St.I (σ) 33) ((St.I (σ) 24 (x1).toNatClampNeg)).toNatClampNeg ((St.I (σ) 33 ((St.I (σ) 24 (x1).toNatClampNeg)).toNatClampNeg) ^^^ ((1 : Int32) <<< ((St.I (σ) 25 (x1).toNatClampNeg) &&& 31))))) ?_
    refine g_goto (tgt := 343) hX d_M_does_232 (by decide) ?_
    exact g_vret hX rfl d_M_does_343 ⟨_, rfl, rfl, h⟩
  · have h := h.2.2.2.2.2.2.2.2 hx
    refine g_tableIn (tgt := 235) hX d_M_does_13 (by rw [hx]; decide) (by rw [hx]; decide) (by rw [hx]; rfl) (by decide) ?_
    refine g_aload_n hX d_M_does_235 rfl 1 rfl ?_
    refine g_iconst (v := 2) hX d_M_does_236 (by decide) ?_
    refine g_iload_n hX d_M_does_237 rfl 2 rfl ?_
    refine g_imul hX d_M_does_238 ?_
    refine g_aload_n hX d_M_does_239 rfl 1 rfl ?_
    refine g_getf (i := 324) (kf := 7) hX (lt_c (by decide)) rfl (lay_MO (AC := AC) (Γ := Γ)) rfl in_M (by decide) t_812 (Or.inl rfl) rfl d_M_does_240 ?_
    refine g_iload_n hX d_M_does_243 rfl 2 rfl ?_
    obtain ⟨q43, h⟩ := h
    refine g_iald (i := 329) hX (lt_c (by decide)) rfl (lay_m4 (AC := AC) (Γ := Γ)) q43 d_M_does_244 ?_
    refine g_i2l hX d_M_does_245 ?_
    refine g_iload_n hX d_M_does_246 rfl 0 rfl ?_
    refine g_callV (i := 324) (k := 0) (n := 0) hX (c_M_make h) hdT_M_make hdO_M_make t_3 t_785 t_787 ts_M_make (lt_c (by decide)) rfl (lay_MO (AC := AC) (Γ := Γ)) rfl ⟨⟨by decide, by decide⟩, np_M_make⟩ ⟨Nat.le_of_ble_eq_true rfl, Nat.le_of_ble_eq_true rfl⟩ (Nat.le_of_ble_eq_true rfl) d_M_does_247 rfl ?_ (fun _ _ z => z)
    rintro _ _ ⟨σ45, rfl, rfl, h⟩
    refine g_aload_n hX d_M_does_250 rfl 1 rfl ?_
    refine g_iconst (v := 2) hX d_M_does_251 (by decide) ?_
    refine g_iload_n hX d_M_does_252 rfl 2 rfl ?_
    refine g_imul hX d_M_does_253 ?_
    refine g_iconst (v := 1) hX d_M_does_254 (by decide) ?_
    refine g_iadd hX d_M_does_255 ?_
    refine g_aload_n hX d_M_does_256 rfl 1 rfl ?_
    refine g_getf (i := 324) (kf := 12) hX (lt_c (by decide)) rfl (lay_MO (AC := AC) (Γ := Γ)) rfl in_M (by decide) t_817 (Or.inl rfl) rfl d_M_does_257 ?_
    refine g_iload_n hX d_M_does_260 rfl 0 rfl ?_
    obtain ⟨q46, h⟩ := h
    refine g_lald (i := 334) hX (lt_c (by decide)) rfl (lay_m9 (AC := AC) (Γ := Γ)) q46 d_M_does_261 ?_
    refine g_aload_n hX d_M_does_262 rfl 1 rfl ?_
    refine g_getf (i := 324) (kf := 7) hX (lt_c (by decide)) rfl (lay_MO (AC := AC) (Γ := Γ)) rfl in_M (by decide) t_812 (Or.inl rfl) rfl d_M_does_263 ?_
    refine g_iload_n hX d_M_does_266 rfl 2 rfl ?_
    obtain ⟨q47, h⟩ := h
    refine g_iald (i := 329) hX (lt_c (by decide)) rfl (lay_m4 (AC := AC) (Γ := Γ)) q47 d_M_does_267 ?_
    refine g_i2l hX d_M_does_268 ?_
    refine g_lsub hX d_M_does_269 ?_
    refine g_iload_n hX d_M_does_270 rfl 0 rfl ?_
    refine g_callV (i := 324) (k := 0) (n := 0) hX (c_M_make h) hdT_M_make hdO_M_make t_3 t_785 t_787 ts_M_make (lt_c (by decide)) rfl (lay_MO (AC := AC) (Γ := Γ)) rfl ⟨⟨by decide, by decide⟩, np_M_make⟩ ⟨Nat.le_of_ble_eq_true rfl, Nat.le_of_ble_eq_true rfl⟩ (Nat.le_of_ble_eq_true rfl) d_M_does_271 rfl ?_ (fun _ _ z => z)
    rintro _ _ ⟨σ49, rfl, rfl, h⟩
    refine g_aload_n hX d_M_does_274 rfl 1 rfl ?_
    refine g_getf (i := 324) (kf := 11) hX (lt_c (by decide)) rfl (lay_MO (AC := AC) (Γ := Γ)) rfl in_M (by decide) t_816 (Or.inl rfl) rfl d_M_does_275 ?_
    refine g_iload_n hX d_M_does_278 rfl 0 rfl ?_
    refine g_iconst (v := 0) hX d_M_does_279 (by decide) ?_
    obtain ⟨q50, h⟩ := h
    refine g_zast (i := 333) hX (lt_c (by decide)) rfl (lay_m8 (AC := AC) (Γ := Γ)) q50 d_M_does_280 (wσ_m_mlives (upd (St.I (σ49) 29) ((St.I (σ) 24 (x1).toNatClampNeg)).toNatClampNeg (0 : Int32))) ?_
    refine g_goto (tgt := 343) hX d_M_does_281 (by decide) ?_
    exact g_vret hX rfl d_M_does_343 ⟨_, rfl, rfl, h⟩

def wp_M_reason_204 (Γ : Ev)  (post : Int32 → St → Prop) (thr : String → St → Prop)  (σ : St) : Prop := post (6 : Int32) (σ)
def wp_M_reason_108 (Γ : Ev)  (post : Int32 → St → Prop) (thr : String → St → Prop) (x1 : Int32) (x2 : Int32) (x3 : Int32) (σ : St) : Prop := ((((x2).toInt < 1 ∨ 7 < (x2).toInt) → (vp_in x1 40 ∧ wp_M_sameShares Γ (x3) ((St.I (σ) 25 (x1).toNatClampNeg)) (σ) (fun v10 σ11 => ((¬ v10 = 0 → (vp_in x1 40 ∧ wp_M_sameMortgages Γ (x3) ((St.I (σ11) 25 (x1).toNatClampNeg)) (σ11) (fun v14 σ15 => ((¬ v14 = 0 → post (0 : Int32) (σ15)) ∧ (v14 = 0 → post (11 : Int32) (σ15)))) thr)) ∧ (v10 = 0 → post (10 : Int32) (σ11)))) thr)) ∧ (x2 = 1 → wp_M_ofSale Γ (x1) (σ) (fun v17 σ18 => post v17 (σ18)) thr) ∧ (x2 = 2 → (vp_in x3 80 ∧ ((¬ (St.I (σ) 30 (x3).toNatClampNeg) = (4 : Int32) → post (0 : Int32) (σ)) ∧ ((St.I (σ) 30 (x3).toNatClampNeg) = (4 : Int32) → post (5 : Int32) (σ))))) ∧ (x2 = 3 → (vp_in x1 40 ∧ (vp_in x3 80 ∧ (((St.I (σ) 30 (x3).toNatClampNeg) < (St.I (σ) 25 (x1).toNatClampNeg) → wp_M_reason_204 Γ  post thr  (σ)) ∧ (¬ (St.I (σ) 30 (x3).toNatClampNeg) < (St.I (σ) 25 (x1).toNatClampNeg) → (vp_in x1 40 ∧ (vp_in x3 80 ∧ (((St.I (σ) 26 (x1).toNatClampNeg) ≤ (St.I (σ) 30 (x3).toNatClampNeg) → wp_M_agreed Γ (x1) (σ) (fun v27 σ28 => ((v27 = 0 → post (7 : Int32) (σ28)) ∧ (¬ v27 = 0 → post (0 : Int32) (σ28)))) thr) ∧ (¬ (St.I (σ) 26 (x1).toNatClampNeg) ≤ (St.I (σ) 30 (x3).toNatClampNeg) → wp_M_reason_204 Γ  post thr  (σ)))))))))) ∧ (x2 = 4 → (vp_in x1 40 ∧ (vp_in x3 80 ∧ (((St.I (σ) 25 (x1).toNatClampNeg) ≤ (St.I (σ) 30 (x3).toNatClampNeg) → post (0 : Int32) (σ)) ∧ (¬ (St.I (σ) 25 (x1).toNatClampNeg) ≤ (St.I (σ) 30 (x3).toNatClampNeg) → post (6 : Int32) (σ)))))) ∧ (x2 = 5 → (vp_in x3 80 ∧ (vp_in x1 40 ∧ ((¬ (((St.I (σ) 33 (x3).toNatClampNeg) >>> ((St.I (σ) 25 (x1).toNatClampNeg) &&& 31)) &&& (1 : Int32)) = (1 : Int32) → post (0 : Int32) (σ)) ∧ ((((St.I (σ) 33 (x3).toNatClampNeg) >>> ((St.I (σ) 25 (x1).toNatClampNeg) &&& 31)) &&& (1 : Int32)) = (1 : Int32) → post (8 : Int32) (σ)))))) ∧ (x2 = 6 → (vp_in x3 80 ∧ (vp_in x1 40 ∧ ((¬ (((St.I (σ) 33 (x3).toNatClampNeg) >>> ((St.I (σ) 25 (x1).toNatClampNeg) &&& 31)) &&& (1 : Int32)) = 0 → post (0 : Int32) (σ)) ∧ ((((St.I (σ) 33 (x3).toNatClampNeg) >>> ((St.I (σ) 25 (x1).toNatClampNeg) &&& 31)) &&& (1 : Int32)) = 0 → post (8 : Int32) (σ)))))) ∧ (x2 = 7 → (vp_in x1 40 ∧ (vp_in x3 80 ∧ (((lg_cmp (Int32.toInt64 (St.I (σ) 25 (x1).toNatClampNeg)) (St.L (σ) 3 (x3).toNatClampNeg)) < 0 → post (0 : Int32) (σ)) ∧ (¬ (lg_cmp (Int32.toInt64 (St.I (σ) 25 (x1).toNatClampNeg)) (St.L (σ) 3 (x3).toNatClampNeg)) < 0 → post (9 : Int32) (σ)))))))
def wp_M_reason_72 (Γ : Ev)  (post : Int32 → St → Prop) (thr : String → St → Prop) (x1 : Int32) (x2 : Int32) (x3 : Int32) (s0 : Int32) (σ : St) : Prop := ((s0 = 0 → wp_M_reason_108 Γ  post thr (x1) (x2) (x3) (σ)) ∧ (¬ s0 = 0 → wp_M_isWarned Γ (x3) (σ) (fun v42 σ43 => ((¬ v42 = 0 → post (2 : Int32) (σ43)) ∧ (v42 = 0 → ((¬ x2 = (8 : Int32) → wp_M_reason_108 Γ  post thr (x1) (x2) (x3) (σ43)) ∧ (x2 = (8 : Int32) → (vp_in x1 40 ∧ wp_M_isWarned Γ ((St.I (σ43) 25 (x1).toNatClampNeg)) (σ43) (fun v47 σ48 => ((v47 = 0 → wp_M_reason_108 Γ  post thr (x1) (x2) (x3) (σ48)) ∧ (¬ v47 = 0 → post (2 : Int32) (σ48)))) thr)))))) thr))
def wp_M_reason_71 (Γ : Ev)  (post : Int32 → St → Prop) (thr : String → St → Prop) (x1 : Int32) (x2 : Int32) (x3 : Int32) (σ : St) : Prop := wp_M_reason_72 Γ  post thr (x1) (x2) (x3) ((0 : Int32)) (σ)
def wp_M_reason_51 (Γ : Ev)  (post : Int32 → St → Prop) (thr : String → St → Prop) (x1 : Int32) (x2 : Int32) (x3 : Int32) (σ : St) : Prop := ((x2 = (4 : Int32) → wp_M_reason_71 Γ  post thr (x1) (x2) (x3) (σ)) ∧ (¬ x2 = (4 : Int32) → ((x2 = (5 : Int32) → wp_M_reason_71 Γ  post thr (x1) (x2) (x3) (σ)) ∧ (¬ x2 = (5 : Int32) → ((x2 = (6 : Int32) → wp_M_reason_71 Γ  post thr (x1) (x2) (x3) (σ)) ∧ (¬ x2 = (6 : Int32) → wp_M_reason_72 Γ  post thr (x1) (x2) (x3) ((1 : Int32)) (σ)))))))
def wp_M_reason (Γ : Ev) (x1 : Int32) (σ : St) (post : Int32 → St → Prop) (thr : String → St → Prop) : Prop := (vp_in x1 40 ∧ (vp_in x1 40 ∧ ((¬ (St.I (σ) 21 (x1).toNatClampNeg) = 0 → (vp_in (St.I (σ) 24 (x1).toNatClampNeg) 80 ∧ (((St.I (σ) 29 ((St.I (σ) 24 (x1).toNatClampNeg)).toNatClampNeg) = 0 → post (1 : Int32) (σ)) ∧ (¬ (St.I (σ) 29 ((St.I (σ) 24 (x1).toNatClampNeg)).toNatClampNeg) = 0 → ((¬ (St.I (σ) 21 (x1).toNatClampNeg) = (8 : Int32) → wp_M_reason_51 Γ  post thr (x1) ((St.I (σ) 21 (x1).toNatClampNeg)) ((St.I (σ) 24 (x1).toNatClampNeg)) (σ)) ∧ ((St.I (σ) 21 (x1).toNatClampNeg) = (8 : Int32) → (vp_in x1 40 ∧ (vp_in (St.I (σ) 25 (x1).toNatClampNeg) 80 ∧ ((¬ (St.I (σ) 29 ((St.I (σ) 25 (x1).toNatClampNeg)).toNatClampNeg) = 0 → wp_M_reason_51 Γ  post thr (x1) ((St.I (σ) 21 (x1).toNatClampNeg)) ((St.I (σ) 24 (x1).toNatClampNeg)) (σ)) ∧ ((St.I (σ) 29 ((St.I (σ) 25 (x1).toNatClampNeg)).toNatClampNeg) = 0 → post (1 : Int32) (σ))))))))))) ∧ ((St.I (σ) 21 (x1).toNatClampNeg) = 0 → post (0 : Int32) (σ)))))
abbrev rm_M_reason : Room := { frames := 3, cells := 0, slots := 0, locals := 85 }
set_option maxRecDepth 100000 in
set_option maxHeartbeats 4000000 in
theorem b_M_reason_204 {p : Program} {l : Launch} {e : Env} {s : State} {m : MethodId} {args : Array Value} {below : List Frame} {meth : Method} {c : Code} {D : va_G} {AC : Nat → ClassId} {lo : Nat} {Γ : Ev} {post : Int32 → St → Prop} {thr : String → St → Prop} (hX : Cx p s m args meth c y_M_reason b_M_reason 5 (some .int) [] D AC lo)    (σ : St) (h : wp_M_reason_204 Γ  post thr  σ) : G p l e rm_M_reason s m args below meth c 5 D lo (pI AC Γ post) (tX AC Γ thr) (wσ AC Γ (σ)) 0 0 204 [] [] := by
  unfold wp_M_reason_204 at h
  refine g_bipush (v := 6) hX d_M_reason_204 (by decide) ?_
  refine g_goto (tgt := 223) hX d_M_reason_206 (by decide) ?_
  exact g_iret hX rfl d_M_reason_223 ⟨_, _, rfl, rfl, h⟩
set_option maxRecDepth 100000 in
set_option maxHeartbeats 4000000 in
theorem b_M_reason_108 {p : Program} {l : Launch} {e : Env} {s : State} {m : MethodId} {args : Array Value} {below : List Frame} {meth : Method} {c : Code} {D : va_G} {AC : Nat → ClassId} {lo : Nat} {Γ : Ev} {post : Int32 → St → Prop} {thr : String → St → Prop} (hX : Cx p s m args meth c y_M_reason b_M_reason 5 (some .int) [] D AC lo)   (x1 : Int32) (x2 : Int32) (x3 : Int32) (σ : St) (h : wp_M_reason_108 Γ  post thr x1 x2 x3 σ) : G p l e rm_M_reason s m args below meth c 5 D lo (pI AC Γ post) (tX AC Γ thr) (wσ AC Γ (σ)) 0 0 108 [(0, .ref (Γ.ad 324)), (1, .int (x1)), (2, .int (x2)), (3, .int (x3))] [] := by
  unfold wp_M_reason_108 at h
  refine g_iload_n hX d_M_reason_108 rfl 2 rfl ?_
  rcases sw_1_7 (x2) with hx | hx | hx | hx | hx | hx | hx | hx
  · have h := h.1 hx
    refine g_tableOut (tgt := 321) hX d_M_reason_109 hx (by decide) ?_
    refine g_aload_n hX d_M_reason_321 rfl 0 rfl ?_
    refine g_iload_n hX d_M_reason_322 rfl 3 rfl ?_
    refine g_aload_n hX d_M_reason_323 rfl 0 rfl ?_
    refine g_getf (i := 324) (kf := 7) hX (lt_c (by decide)) rfl (lay_MO (AC := AC) (Γ := Γ)) rfl in_M (by decide) t_812 (Or.inl rfl) rfl d_M_reason_324 ?_
    refine g_iload_n hX d_M_reason_327 rfl 1 rfl ?_
    obtain ⟨q9, h⟩ := h
    refine g_iald (i := 329) hX (lt_c (by decide)) rfl (lay_m4 (AC := AC) (Γ := Γ)) q9 d_M_reason_328 ?_
    refine g_callV (i := 324) (k := 0) (n := 0) hX (c_M_sameShares h) hdT_M_sameShares hdO_M_sameShares t_3 t_773 t_775 ts_M_sameShares (lt_c (by decide)) rfl (lay_MO (AC := AC) (Γ := Γ)) rfl ⟨⟨by decide, by decide⟩, np_M_sameShares⟩ ⟨Nat.le_of_ble_eq_true rfl, Nat.le_of_ble_eq_true rfl⟩ (Nat.le_of_ble_eq_true rfl) d_M_reason_329 rfl ?_ (fun _ _ z => z)
    rintro _ _ ⟨v10, σ11, rfl, rfl, h⟩
    refine g_if_ne (tgt := 340) hX d_M_reason_332 (by decide) (fun q12 => ?_) (fun q12 => ?_)
    · have h := h.1 q12
      refine g_aload_n hX d_M_reason_340 rfl 0 rfl ?_
      refine g_iload_n hX d_M_reason_341 rfl 3 rfl ?_
      refine g_aload_n hX d_M_reason_342 rfl 0 rfl ?_
      refine g_getf (i := 324) (kf := 7) hX (lt_c (by decide)) rfl (lay_MO (AC := AC) (Γ := Γ)) rfl in_M (by decide) t_812 (Or.inl rfl) rfl d_M_reason_343 ?_
      refine g_iload_n hX d_M_reason_346 rfl 1 rfl ?_
      obtain ⟨q13, h⟩ := h
      refine g_iald (i := 329) hX (lt_c (by decide)) rfl (lay_m4 (AC := AC) (Γ := Γ)) q13 d_M_reason_347 ?_
      refine g_callV (i := 324) (k := 0) (n := 0) hX (c_M_sameMortgages h) hdT_M_sameMortgages hdO_M_sameMortgages t_3 t_777 t_779 ts_M_sameMortgages (lt_c (by decide)) rfl (lay_MO (AC := AC) (Γ := Γ)) rfl ⟨⟨by decide, by decide⟩, np_M_sameMortgages⟩ ⟨Nat.le_of_ble_eq_true rfl, Nat.le_of_ble_eq_true rfl⟩ (Nat.le_of_ble_eq_true rfl) d_M_reason_348 rfl ?_ (fun _ _ z => z)
      rintro _ _ ⟨v14, σ15, rfl, rfl, h⟩
      refine g_if_ne (tgt := 359) hX d_M_reason_351 (by decide) (fun q16 => ?_) (fun q16 => ?_)
      · have h := h.1 q16
        refine g_iconst (v := 0) hX d_M_reason_359 (by decide) ?_
        exact g_iret hX rfl d_M_reason_360 ⟨_, _, rfl, rfl, h⟩
      · have h := h.2 q16
        refine g_bipush (v := 11) hX d_M_reason_354 (by decide) ?_
        refine g_goto (tgt := 360) hX d_M_reason_356 (by decide) ?_
        exact g_iret hX rfl d_M_reason_360 ⟨_, _, rfl, rfl, h⟩
    · have h := h.2 q12
      refine g_bipush (v := 10) hX d_M_reason_335 (by decide) ?_
      refine g_goto (tgt := 360) hX d_M_reason_337 (by decide) ?_
      exact g_iret hX rfl d_M_reason_360 ⟨_, _, rfl, rfl, h⟩
  · have h := h.2.1 hx
    refine g_tableIn (tgt := 152) hX d_M_reason_109 (by rw [hx]; decide) (by rw [hx]; decide) (by rw [hx]; rfl) (by decide) ?_
    refine g_aload_n hX d_M_reason_152 rfl 0 rfl ?_
    refine g_iload_n hX d_M_reason_153 rfl 1 rfl ?_
    refine g_callV (i := 324) (k := 0) (n := 0) hX (c_M_ofSale h) hdT_M_ofSale hdO_M_ofSale t_3 t_758 t_760 ts_M_ofSale (lt_c (by decide)) rfl (lay_MO (AC := AC) (Γ := Γ)) rfl ⟨⟨by decide, by decide⟩, np_M_ofSale⟩ ⟨Nat.le_of_ble_eq_true rfl, Nat.le_of_ble_eq_true rfl⟩ (Nat.le_of_ble_eq_true rfl) d_M_reason_154 rfl ?_ (fun _ _ z => z)
    rintro _ _ ⟨v17, σ18, rfl, rfl, h⟩
    exact g_iret hX rfl d_M_reason_157 ⟨_, _, rfl, rfl, h⟩
  · have h := h.2.2.1 hx
    refine g_tableIn (tgt := 158) hX d_M_reason_109 (by rw [hx]; decide) (by rw [hx]; decide) (by rw [hx]; rfl) (by decide) ?_
    refine g_aload_n hX d_M_reason_158 rfl 0 rfl ?_
    refine g_getf (i := 324) (kf := 15) hX (lt_c (by decide)) rfl (lay_MO (AC := AC) (Γ := Γ)) rfl in_M (by decide) t_820 (Or.inl rfl) rfl d_M_reason_159 ?_
    refine g_iload_n hX d_M_reason_162 rfl 3 rfl ?_
    obtain ⟨q19, h⟩ := h
    refine g_iald (i := 337) hX (lt_c (by decide)) rfl (lay_m12 (AC := AC) (Γ := Γ)) q19 d_M_reason_163 ?_
    refine g_iconst (v := 4) hX d_M_reason_164 (by decide) ?_
    refine g_icmp_ne (tgt := 172) hX d_M_reason_165 (by decide) (fun q20 => ?_) (fun q20 => ?_)
    · have h := h.1 q20
      refine g_iconst (v := 0) hX d_M_reason_172 (by decide) ?_
      exact g_iret hX rfl d_M_reason_173 ⟨_, _, rfl, rfl, h⟩
    · have h := h.2 q20
      refine g_iconst (v := 5) hX d_M_reason_168 (by decide) ?_
      refine g_goto (tgt := 173) hX d_M_reason_169 (by decide) ?_
      exact g_iret hX rfl d_M_reason_173 ⟨_, _, rfl, rfl, h⟩
  · have h := h.2.2.2.1 hx
    refine g_tableIn (tgt := 174) hX d_M_reason_109 (by rw [hx]; decide) (by rw [hx]; decide) (by rw [hx]; rfl) (by decide) ?_
    refine g_aload_n hX d_M_reason_174 rfl 0 rfl ?_
    refine g_getf (i := 324) (kf := 7) hX (lt_c (by decide)) rfl (lay_MO (AC := AC) (Γ := Γ)) rfl in_M (by decide) t_812 (Or.inl rfl) rfl d_M_reason_175 ?_
    refine g_iload_n hX d_M_reason_178 rfl 1 rfl ?_
    obtain ⟨q21, h⟩ := h
    refine g_iald (i := 329) hX (lt_c (by decide)) rfl (lay_m4 (AC := AC) (Γ := Γ)) q21 d_M_reason_179 ?_
    refine g_aload_n hX d_M_reason_180 rfl 0 rfl ?_
    refine g_getf (i := 324) (kf := 15) hX (lt_c (by decide)) rfl (lay_MO (AC := AC) (Γ := Γ)) rfl in_M (by decide) t_820 (Or.inl rfl) rfl d_M_reason_181 ?_
    refine g_iload_n hX d_M_reason_184 rfl 3 rfl ?_
    obtain ⟨q22, h⟩ := h
    refine g_iald (i := 337) hX (lt_c (by decide)) rfl (lay_m12 (AC := AC) (Γ := Γ)) q22 d_M_reason_185 ?_
    refine g_icmp_gt (tgt := 204) hX d_M_reason_186 (by decide) (fun q23 => ?_) (fun q23 => ?_)
    · have h := h.1 q23
      refine g_sub [] rfl ?_
      exact b_M_reason_204 hX   _ h
    · have h := h.2 q23
      refine g_aload_n hX d_M_reason_189 rfl 0 rfl ?_
      refine g_getf (i := 324) (kf := 8) hX (lt_c (by decide)) rfl (lay_MO (AC := AC) (Γ := Γ)) rfl in_M (by decide) t_813 (Or.inl rfl) rfl d_M_reason_190 ?_
      refine g_iload_n hX d_M_reason_193 rfl 1 rfl ?_
      obtain ⟨q24, h⟩ := h
      refine g_iald (i := 330) hX (lt_c (by decide)) rfl (lay_m5 (AC := AC) (Γ := Γ)) q24 d_M_reason_194 ?_
      refine g_aload_n hX d_M_reason_195 rfl 0 rfl ?_
      refine g_getf (i := 324) (kf := 15) hX (lt_c (by decide)) rfl (lay_MO (AC := AC) (Γ := Γ)) rfl in_M (by decide) t_820 (Or.inl rfl) rfl d_M_reason_196 ?_
      refine g_iload_n hX d_M_reason_199 rfl 3 rfl ?_
      obtain ⟨q25, h⟩ := h
      refine g_iald (i := 337) hX (lt_c (by decide)) rfl (lay_m12 (AC := AC) (Γ := Γ)) q25 d_M_reason_200 ?_
      refine g_icmp_le (tgt := 209) hX d_M_reason_201 (by decide) (fun q26 => ?_) (fun q26 => ?_)
      · have h := h.1 q26
        refine g_aload_n hX d_M_reason_209 rfl 0 rfl ?_
        refine g_iload_n hX d_M_reason_210 rfl 1 rfl ?_
        refine g_callV (i := 324) (k := 0) (n := 0) hX (c_M_agreed h) hdT_M_agreed hdO_M_agreed t_3 t_769 t_771 ts_M_agreed (lt_c (by decide)) rfl (lay_MO (AC := AC) (Γ := Γ)) rfl ⟨⟨by decide, by decide⟩, np_M_agreed⟩ ⟨Nat.le_of_ble_eq_true rfl, Nat.le_of_ble_eq_true rfl⟩ (Nat.le_of_ble_eq_true rfl) d_M_reason_211 rfl ?_ (fun _ _ z => z)
        rintro _ _ ⟨v27, σ28, rfl, rfl, h⟩
        refine g_if_eq (tgt := 221) hX d_M_reason_214 (by decide) (fun q29 => ?_) (fun q29 => ?_)
        · have h := h.1 q29
          refine g_bipush (v := 7) hX d_M_reason_221 (by decide) ?_
          exact g_iret hX rfl d_M_reason_223 ⟨_, _, rfl, rfl, h⟩
        · have h := h.2 q29
          refine g_iconst (v := 0) hX d_M_reason_217 (by decide) ?_
          refine g_goto (tgt := 223) hX d_M_reason_218 (by decide) ?_
          exact g_iret hX rfl d_M_reason_223 ⟨_, _, rfl, rfl, h⟩
      · have h := h.2 q26
        refine g_sub [] rfl ?_
        exact b_M_reason_204 hX   _ h
  · have h := h.2.2.2.2.1 hx
    refine g_tableIn (tgt := 224) hX d_M_reason_109 (by rw [hx]; decide) (by rw [hx]; decide) (by rw [hx]; rfl) (by decide) ?_
    refine g_aload_n hX d_M_reason_224 rfl 0 rfl ?_
    refine g_getf (i := 324) (kf := 7) hX (lt_c (by decide)) rfl (lay_MO (AC := AC) (Γ := Γ)) rfl in_M (by decide) t_812 (Or.inl rfl) rfl d_M_reason_225 ?_
    refine g_iload_n hX d_M_reason_228 rfl 1 rfl ?_
    obtain ⟨q30, h⟩ := h
    refine g_iald (i := 329) hX (lt_c (by decide)) rfl (lay_m4 (AC := AC) (Γ := Γ)) q30 d_M_reason_229 ?_
    refine g_aload_n hX d_M_reason_230 rfl 0 rfl ?_
    refine g_getf (i := 324) (kf := 15) hX (lt_c (by decide)) rfl (lay_MO (AC := AC) (Γ := Γ)) rfl in_M (by decide) t_820 (Or.inl rfl) rfl d_M_reason_231 ?_
    refine g_iload_n hX d_M_reason_234 rfl 3 rfl ?_
    obtain ⟨q31, h⟩ := h
    refine g_iald (i := 337) hX (lt_c (by decide)) rfl (lay_m12 (AC := AC) (Γ := Γ)) q31 d_M_reason_235 ?_
    refine g_icmp_le (tgt := 244) hX d_M_reason_236 (by decide) (fun q32 => ?_) (fun q32 => ?_)
    · have h := h.1 q32
      refine g_iconst (v := 0) hX d_M_reason_244 (by decide) ?_
      exact g_iret hX rfl d_M_reason_245 ⟨_, _, rfl, rfl, h⟩
    · have h := h.2 q32
      refine g_bipush (v := 6) hX d_M_reason_239 (by decide) ?_
      refine g_goto (tgt := 245) hX d_M_reason_241 (by decide) ?_
      exact g_iret hX rfl d_M_reason_245 ⟨_, _, rfl, rfl, h⟩
  · have h := h.2.2.2.2.2.1 hx
    refine g_tableIn (tgt := 246) hX d_M_reason_109 (by rw [hx]; decide) (by rw [hx]; decide) (by rw [hx]; rfl) (by decide) ?_
    refine g_aload_n hX d_M_reason_246 rfl 0 rfl ?_
    refine g_getf (i := 324) (kf := 18) hX (lt_c (by decide)) rfl (lay_MO (AC := AC) (Γ := Γ)) rfl in_M (by decide) t_823 (Or.inl rfl) rfl d_M_reason_247 ?_
    refine g_iload_n hX d_M_reason_250 rfl 3 rfl ?_
    obtain ⟨q33, h⟩ := h
    refine g_iald (i := 340) hX (lt_c (by decide)) rfl (lay_m15 (AC := AC) (Γ := Γ)) q33 d_M_reason_251 ?_
    refine g_aload_n hX d_M_reason_252 rfl 0 rfl ?_
    refine g_getf (i := 324) (kf := 7) hX (lt_c (by decide)) rfl (lay_MO (AC := AC) (Γ := Γ)) rfl in_M (by decide) t_812 (Or.inl rfl) rfl d_M_reason_253 ?_
    refine g_iload_n hX d_M_reason_256 rfl 1 rfl ?_
    obtain ⟨q34, h⟩ := h
    refine g_iald (i := 329) hX (lt_c (by decide)) rfl (lay_m4 (AC := AC) (Γ := Γ)) q34 d_M_reason_257 ?_
    refine g_ishr hX d_M_reason_258 ?_
    refine g_iconst (v := 1) hX d_M_reason_259 (by decide) ?_
    refine g_iand hX d_M_reason_260 ?_
    refine g_iconst (v := 1) hX d_M_reason_261 (by decide) ?_
    refine g_icmp_ne (tgt := 270) hX d_M_reason_262 (by decide) (fun q35 => ?_) (fun q35 => ?_)
    · have h := h.1 q35
      refine g_iconst (v := 0) hX d_M_reason_270 (by decide) ?_
      exact g_iret hX rfl d_M_reason_271 ⟨_, _, rfl, rfl, h⟩
    · have h := h.2 q35
      refine g_bipush (v := 8) hX d_M_reason_265 (by decide) ?_
      refine g_goto (tgt := 271) hX d_M_reason_267 (by decide) ?_
      exact g_iret hX rfl d_M_reason_271 ⟨_, _, rfl, rfl, h⟩
  · have h := h.2.2.2.2.2.2.1 hx
    refine g_tableIn (tgt := 272) hX d_M_reason_109 (by rw [hx]; decide) (by rw [hx]; decide) (by rw [hx]; rfl) (by decide) ?_
    refine g_aload_n hX d_M_reason_272 rfl 0 rfl ?_
    refine g_getf (i := 324) (kf := 18) hX (lt_c (by decide)) rfl (lay_MO (AC := AC) (Γ := Γ)) rfl in_M (by decide) t_823 (Or.inl rfl) rfl d_M_reason_273 ?_
    refine g_iload_n hX d_M_reason_276 rfl 3 rfl ?_
    obtain ⟨q36, h⟩ := h
    refine g_iald (i := 340) hX (lt_c (by decide)) rfl (lay_m15 (AC := AC) (Γ := Γ)) q36 d_M_reason_277 ?_
    refine g_aload_n hX d_M_reason_278 rfl 0 rfl ?_
    refine g_getf (i := 324) (kf := 7) hX (lt_c (by decide)) rfl (lay_MO (AC := AC) (Γ := Γ)) rfl in_M (by decide) t_812 (Or.inl rfl) rfl d_M_reason_279 ?_
    refine g_iload_n hX d_M_reason_282 rfl 1 rfl ?_
    obtain ⟨q37, h⟩ := h
    refine g_iald (i := 329) hX (lt_c (by decide)) rfl (lay_m4 (AC := AC) (Γ := Γ)) q37 d_M_reason_283 ?_
    refine g_ishr hX d_M_reason_284 ?_
    refine g_iconst (v := 1) hX d_M_reason_285 (by decide) ?_
    refine g_iand hX d_M_reason_286 ?_
    refine g_if_ne (tgt := 295) hX d_M_reason_287 (by decide) (fun q38 => ?_) (fun q38 => ?_)
    · have h := h.1 q38
      refine g_iconst (v := 0) hX d_M_reason_295 (by decide) ?_
      exact g_iret hX rfl d_M_reason_296 ⟨_, _, rfl, rfl, h⟩
    · have h := h.2 q38
      refine g_bipush (v := 8) hX d_M_reason_290 (by decide) ?_
      refine g_goto (tgt := 296) hX d_M_reason_292 (by decide) ?_
      exact g_iret hX rfl d_M_reason_296 ⟨_, _, rfl, rfl, h⟩
  · have h := h.2.2.2.2.2.2.2 hx
    refine g_tableIn (tgt := 297) hX d_M_reason_109 (by rw [hx]; decide) (by rw [hx]; decide) (by rw [hx]; rfl) (by decide) ?_
    refine g_aload_n hX d_M_reason_297 rfl 0 rfl ?_
    refine g_getf (i := 324) (kf := 7) hX (lt_c (by decide)) rfl (lay_MO (AC := AC) (Γ := Γ)) rfl in_M (by decide) t_812 (Or.inl rfl) rfl d_M_reason_298 ?_
    refine g_iload_n hX d_M_reason_301 rfl 1 rfl ?_
    obtain ⟨q39, h⟩ := h
    refine g_iald (i := 329) hX (lt_c (by decide)) rfl (lay_m4 (AC := AC) (Γ := Γ)) q39 d_M_reason_302 ?_
    refine g_i2l hX d_M_reason_303 ?_
    refine g_aload_n hX d_M_reason_304 rfl 0 rfl ?_
    refine g_getf (i := 324) (kf := 12) hX (lt_c (by decide)) rfl (lay_MO (AC := AC) (Γ := Γ)) rfl in_M (by decide) t_817 (Or.inl rfl) rfl d_M_reason_305 ?_
    refine g_iload_n hX d_M_reason_308 rfl 3 rfl ?_
    obtain ⟨q40, h⟩ := h
    refine g_lald (i := 334) hX (lt_c (by decide)) rfl (lay_m9 (AC := AC) (Γ := Γ)) q40 d_M_reason_309 ?_
    refine g_lcmp hX d_M_reason_310 ?_
    refine g_if_lt (tgt := 319) hX d_M_reason_311 (by decide) (fun q41 => ?_) (fun q41 => ?_)
    · have h := h.1 q41
      refine g_iconst (v := 0) hX d_M_reason_319 (by decide) ?_
      exact g_iret hX rfl d_M_reason_320 ⟨_, _, rfl, rfl, h⟩
    · have h := h.2 q41
      refine g_bipush (v := 9) hX d_M_reason_314 (by decide) ?_
      refine g_goto (tgt := 320) hX d_M_reason_316 (by decide) ?_
      exact g_iret hX rfl d_M_reason_320 ⟨_, _, rfl, rfl, h⟩
set_option maxRecDepth 100000 in
set_option maxHeartbeats 4000000 in
theorem b_M_reason_72 {p : Program} {l : Launch} {e : Env} {s : State} {m : MethodId} {args : Array Value} {below : List Frame} {meth : Method} {c : Code} {D : va_G} {AC : Nat → ClassId} {lo : Nat} {Γ : Ev} {post : Int32 → St → Prop} {thr : String → St → Prop} (hX : Cx p s m args meth c y_M_reason b_M_reason 5 (some .int) [] D AC lo)   (x1 : Int32) (x2 : Int32) (x3 : Int32) (s0 : Int32) (σ : St) (h : wp_M_reason_72 Γ  post thr x1 x2 x3 s0 σ) : G p l e rm_M_reason s m args below meth c 5 D lo (pI AC Γ post) (tX AC Γ thr) (wσ AC Γ (σ)) 0 0 72 [(0, .ref (Γ.ad 324)), (1, .int (x1)), (2, .int (x2)), (3, .int (x3))] [.int (s0)] := by
  unfold wp_M_reason_72 at h
  refine g_istore hX d_M_reason_72 (by decide) rfl ?_
  refine g_iload hX d_M_reason_74 0 rfl ?_
  refine g_if_eq (tgt := 108) hX d_M_reason_76 (by decide) (fun q8 => ?_) (fun q8 => ?_)
  · have h := h.1 q8
    refine g_sub [1, 2, 3, 4] rfl ?_
    exact b_M_reason_108 hX  _ _ _ _ h
  · have h := h.2 q8
    refine g_aload_n hX d_M_reason_79 rfl 1 rfl ?_
    refine g_iload_n hX d_M_reason_80 rfl 4 rfl ?_
    refine g_callV (i := 324) (k := 0) (n := 0) hX (c_M_isWarned h) hdT_M_isWarned hdO_M_isWarned t_3 t_754 t_756 ts_M_isWarned (lt_c (by decide)) rfl (lay_MO (AC := AC) (Γ := Γ)) rfl ⟨⟨by decide, by decide⟩, np_M_isWarned⟩ ⟨Nat.le_of_ble_eq_true rfl, Nat.le_of_ble_eq_true rfl⟩ (Nat.le_of_ble_eq_true rfl) d_M_reason_81 rfl ?_ (fun _ _ z => z)
    rintro _ _ ⟨v42, σ43, rfl, rfl, h⟩
    refine g_if_ne (tgt := 106) hX d_M_reason_84 (by decide) (fun q44 => ?_) (fun q44 => ?_)
    · have h := h.1 q44
      refine g_iconst (v := 2) hX d_M_reason_106 (by decide) ?_
      exact g_iret hX rfl d_M_reason_107 ⟨_, _, rfl, rfl, h⟩
    · have h := h.2 q44
      refine g_iload_n hX d_M_reason_87 rfl 3 rfl ?_
      refine g_bipush (v := 8) hX d_M_reason_88 (by decide) ?_
      refine g_icmp_ne (tgt := 108) hX d_M_reason_90 (by decide) (fun q45 => ?_) (fun q45 => ?_)
      · have h := h.1 q45
        refine g_sub [1, 2, 3, 4] rfl ?_
        exact b_M_reason_108 hX  _ _ _ _ h
      · have h := h.2 q45
        refine g_aload_n hX d_M_reason_93 rfl 1 rfl ?_
        refine g_aload_n hX d_M_reason_94 rfl 1 rfl ?_
        refine g_getf (i := 324) (kf := 7) hX (lt_c (by decide)) rfl (lay_MO (AC := AC) (Γ := Γ)) rfl in_M (by decide) t_812 (Or.inl rfl) rfl d_M_reason_95 ?_
        refine g_iload_n hX d_M_reason_98 rfl 2 rfl ?_
        obtain ⟨q46, h⟩ := h
        refine g_iald (i := 329) hX (lt_c (by decide)) rfl (lay_m4 (AC := AC) (Γ := Γ)) q46 d_M_reason_99 ?_
        refine g_callV (i := 324) (k := 0) (n := 0) hX (c_M_isWarned h) hdT_M_isWarned hdO_M_isWarned t_3 t_754 t_756 ts_M_isWarned (lt_c (by decide)) rfl (lay_MO (AC := AC) (Γ := Γ)) rfl ⟨⟨by decide, by decide⟩, np_M_isWarned⟩ ⟨Nat.le_of_ble_eq_true rfl, Nat.le_of_ble_eq_true rfl⟩ (Nat.le_of_ble_eq_true rfl) d_M_reason_100 rfl ?_ (fun _ _ z => z)
        rintro _ _ ⟨v47, σ48, rfl, rfl, h⟩
        refine g_if_eq (tgt := 108) hX d_M_reason_103 (by decide) (fun q49 => ?_) (fun q49 => ?_)
        · have h := h.1 q49
          refine g_sub [1, 2, 3, 4] rfl ?_
          exact b_M_reason_108 hX  _ _ _ _ h
        · have h := h.2 q49
          refine g_iconst (v := 2) hX d_M_reason_106 (by decide) ?_
          exact g_iret hX rfl d_M_reason_107 ⟨_, _, rfl, rfl, h⟩
set_option maxRecDepth 100000 in
set_option maxHeartbeats 4000000 in
theorem b_M_reason_71 {p : Program} {l : Launch} {e : Env} {s : State} {m : MethodId} {args : Array Value} {below : List Frame} {meth : Method} {c : Code} {D : va_G} {AC : Nat → ClassId} {lo : Nat} {Γ : Ev} {post : Int32 → St → Prop} {thr : String → St → Prop} (hX : Cx p s m args meth c y_M_reason b_M_reason 5 (some .int) [] D AC lo)   (x1 : Int32) (x2 : Int32) (x3 : Int32) (σ : St) (h : wp_M_reason_71 Γ  post thr x1 x2 x3 σ) : G p l e rm_M_reason s m args below meth c 5 D lo (pI AC Γ post) (tX AC Γ thr) (wσ AC Γ (σ)) 0 0 71 [(0, .ref (Γ.ad 324)), (1, .int (x1)), (2, .int (x2)), (3, .int (x3))] [] := by
  unfold wp_M_reason_71 at h
  refine g_iconst (v := 0) hX d_M_reason_71 (by decide) ?_
  refine g_sub [0, 1, 2, 3] rfl ?_
  exact b_M_reason_72 hX  _ _ _ _ _ h
set_option maxRecDepth 100000 in
set_option maxHeartbeats 4000000 in
theorem b_M_reason_51 {p : Program} {l : Launch} {e : Env} {s : State} {m : MethodId} {args : Array Value} {below : List Frame} {meth : Method} {c : Code} {D : va_G} {AC : Nat → ClassId} {lo : Nat} {Γ : Ev} {post : Int32 → St → Prop} {thr : String → St → Prop} (hX : Cx p s m args meth c y_M_reason b_M_reason 5 (some .int) [] D AC lo)   (x1 : Int32) (x2 : Int32) (x3 : Int32) (σ : St) (h : wp_M_reason_51 Γ  post thr x1 x2 x3 σ) : G p l e rm_M_reason s m args below meth c 5 D lo (pI AC Γ post) (tX AC Γ thr) (wσ AC Γ (σ)) 0 0 51 [(0, .ref (Γ.ad 324)), (1, .int (x1)), (2, .int (x2)), (3, .int (x3))] [] := by
  unfold wp_M_reason_51 at h
  refine g_iload_n hX d_M_reason_51 rfl 2 rfl ?_
  refine g_iconst (v := 4) hX d_M_reason_52 (by decide) ?_
  refine g_icmp_eq (tgt := 71) hX d_M_reason_53 (by decide) (fun q7 => ?_) (fun q7 => ?_)
  · have h := h.1 q7
    refine g_sub [0, 1, 2, 3] rfl ?_
    exact b_M_reason_71 hX  _ _ _ _ h
  · have h := h.2 q7
    refine g_iload_n hX d_M_reason_56 rfl 2 rfl ?_
    refine g_iconst (v := 5) hX d_M_reason_57 (by decide) ?_
    refine g_icmp_eq (tgt := 71) hX d_M_reason_58 (by decide) (fun q50 => ?_) (fun q50 => ?_)
    · have h := h.1 q50
      refine g_sub [0, 1, 2, 3] rfl ?_
      exact b_M_reason_71 hX  _ _ _ _ h
    · have h := h.2 q50
      refine g_iload_n hX d_M_reason_61 rfl 2 rfl ?_
      refine g_bipush (v := 6) hX d_M_reason_62 (by decide) ?_
      refine g_icmp_eq (tgt := 71) hX d_M_reason_64 (by decide) (fun q51 => ?_) (fun q51 => ?_)
      · have h := h.1 q51
        refine g_sub [0, 1, 2, 3] rfl ?_
        exact b_M_reason_71 hX  _ _ _ _ h
      · have h := h.2 q51
        refine g_iconst (v := 1) hX d_M_reason_67 (by decide) ?_
        refine g_goto (tgt := 72) hX d_M_reason_68 (by decide) ?_
        refine g_sub [0, 1, 2, 3] rfl ?_
        exact b_M_reason_72 hX  _ _ _ _ _ h
set_option maxRecDepth 100000 in
set_option maxHeartbeats 4000000 in
theorem c_M_reason {l : Launch} {D : va_G} {AC : Nat → ClassId} {lo : Nat} {Γ : Ev} {x1 : Int32} {σ : St} {post : Int32 → St → Prop} {thr : String → St → Prop} (h : wp_M_reason Γ x1 σ post thr) : Ct l y_M_reason hd_M_reason rm_M_reason D AC lo [.ref (Γ.ad 324), .int (x1)] (wσ AC Γ σ) (pI AC Γ post) (tX AC Γ thr) := by
  refine Ct.of (by decide) (Nat.le_of_ble_eq_true rfl) ?_
  intro p e s m args below meth c hadm hX
  unfold wp_M_reason at h
  show G p l e rm_M_reason s m args below meth c 5 D lo (pI AC Γ post) (tX AC Γ thr) (wσ AC Γ (σ)) 0 0 0 [(0, .ref (Γ.ad 324)), (1, .int (x1))] []
  refine g_aload_n hX d_M_reason_0 rfl 0 rfl ?_
  refine g_getf (i := 324) (kf := 3) hX (lt_c (by decide)) rfl (lay_MO (AC := AC) (Γ := Γ)) rfl in_M (by decide) t_808 (Or.inl rfl) rfl d_M_reason_1 ?_
  refine g_iload_n hX d_M_reason_4 rfl 1 rfl ?_
  obtain ⟨q1, h⟩ := h
  refine g_iald (i := 325) hX (lt_c (by decide)) rfl (lay_m0 (AC := AC) (Γ := Γ)) q1 d_M_reason_5 ?_
  refine g_istore_n hX d_M_reason_6 rfl (by decide) rfl ?_
  refine g_aload_n hX d_M_reason_7 rfl 1 rfl ?_
  refine g_getf (i := 324) (kf := 6) hX (lt_c (by decide)) rfl (lay_MO (AC := AC) (Γ := Γ)) rfl in_M (by decide) t_811 (Or.inl rfl) rfl d_M_reason_8 ?_
  refine g_iload_n hX d_M_reason_11 rfl 2 rfl ?_
  obtain ⟨q2, h⟩ := h
  refine g_iald (i := 328) hX (lt_c (by decide)) rfl (lay_m3 (AC := AC) (Γ := Γ)) q2 d_M_reason_12 ?_
  refine g_istore_n hX d_M_reason_13 rfl (by decide) rfl ?_
  refine g_iload_n hX d_M_reason_14 rfl 1 rfl ?_
  refine g_if_ne (tgt := 20) hX d_M_reason_15 (by decide) (fun q3 => ?_) (fun q3 => ?_)
  · have h := h.1 q3
    refine g_aload_n hX d_M_reason_20 rfl 2 rfl ?_
    refine g_getf (i := 324) (kf := 11) hX (lt_c (by decide)) rfl (lay_MO (AC := AC) (Γ := Γ)) rfl in_M (by decide) t_816 (Or.inl rfl) rfl d_M_reason_21 ?_
    refine g_iload_n hX d_M_reason_24 rfl 0 rfl ?_
    obtain ⟨q4, h⟩ := h
    refine g_zald (i := 333) hX (lt_c (by decide)) rfl (lay_m8 (AC := AC) (Γ := Γ)) q4 d_M_reason_25 ?_
    refine g_if_eq (tgt := 49) hX d_M_reason_26 (by decide) (fun q5 => ?_) (fun q5 => ?_)
    · have h := h.1 q5
      refine g_iconst (v := 1) hX d_M_reason_49 (by decide) ?_
      exact g_iret hX rfl d_M_reason_50 ⟨_, _, rfl, rfl, h⟩
    · have h := h.2 q5
      refine g_iload_n hX d_M_reason_29 rfl 1 rfl ?_
      refine g_bipush (v := 8) hX d_M_reason_30 (by decide) ?_
      refine g_icmp_ne (tgt := 51) hX d_M_reason_32 (by decide) (fun q6 => ?_) (fun q6 => ?_)
      · have h := h.1 q6
        refine g_sub [2, 3, 1, 0] rfl ?_
        exact b_M_reason_51 hX  _ _ _ _ h
      · have h := h.2 q6
        refine g_aload_n hX d_M_reason_35 rfl 2 rfl ?_
        refine g_getf (i := 324) (kf := 11) hX (lt_c (by decide)) rfl (lay_MO (AC := AC) (Γ := Γ)) rfl in_M (by decide) t_816 (Or.inl rfl) rfl d_M_reason_36 ?_
        refine g_aload_n hX d_M_reason_39 rfl 2 rfl ?_
        refine g_getf (i := 324) (kf := 7) hX (lt_c (by decide)) rfl (lay_MO (AC := AC) (Γ := Γ)) rfl in_M (by decide) t_812 (Or.inl rfl) rfl d_M_reason_40 ?_
        refine g_iload_n hX d_M_reason_43 rfl 3 rfl ?_
        obtain ⟨q52, h⟩ := h
        refine g_iald (i := 329) hX (lt_c (by decide)) rfl (lay_m4 (AC := AC) (Γ := Γ)) q52 d_M_reason_44 ?_
        obtain ⟨q53, h⟩ := h
        refine g_zald (i := 333) hX (lt_c (by decide)) rfl (lay_m8 (AC := AC) (Γ := Γ)) q53 d_M_reason_45 ?_
        refine g_if_ne (tgt := 51) hX d_M_reason_46 (by decide) (fun q54 => ?_) (fun q54 => ?_)
        · have h := h.1 q54
          refine g_sub [2, 3, 1, 0] rfl ?_
          exact b_M_reason_51 hX  _ _ _ _ h
        · have h := h.2 q54
          refine g_iconst (v := 1) hX d_M_reason_49 (by decide) ?_
          exact g_iret hX rfl d_M_reason_50 ⟨_, _, rfl, rfl, h⟩
  · have h := h.2 q3
    refine g_iconst (v := 0) hX d_M_reason_18 (by decide) ?_
    exact g_iret hX rfl d_M_reason_19 ⟨_, _, rfl, rfl, h⟩

def wp_M_look_128 (Γ : Ev) (k60 : Int32 → Int32 → Int32 → St → Prop) (k68 : Int32 → Int32 → Int32 → Int32 → St → Prop) (post : St → Prop) (thr : String → St → Prop) (x1 : Int32) (x2 : Int32) (x3 : Int32) (x4 : Int32) (σ : St) : Prop := k68 (x1) (x2) (x3) ((x4 + 1)) (σ)
def wp_M_look_68 (Γ : Ev) (k60 : Int32 → Int32 → Int32 → St → Prop) (post : St → Prop) (thr : String → St → Prop) : Nat → Int32 → Int32 → Int32 → Int32 → St → Prop
  | 0 => fun _ _ _ _ _ => False
  | fuel + 1 => fun x1 x2 x3 x4 σ => (((St.I (σ) 20 2) ≤ x4 → k60 (x1) (x2) ((x3 + 1)) (σ)) ∧ (¬ (St.I (σ) 20 2) ≤ x4 → (vp_in x4 40 ∧ ((¬ (St.I (σ) 23 (x4).toNatClampNeg) = x3 → wp_M_look_128 Γ k60 (fun x1 x2 x3 x4 σ => wp_M_look_68 Γ k60 post thr fuel x1 x2 x3 x4 σ) post thr (x1) (x2) (x3) (x4) (σ)) ∧ ((St.I (σ) 23 (x4).toNatClampNeg) = x3 → (vp_in x4 40 ∧ ((x1 < (St.I (σ) 22 (x4).toNatClampNeg) → wp_M_look_128 Γ k60 (fun x1 x2 x3 x4 σ => wp_M_look_68 Γ k60 post thr fuel x1 x2 x3 x4 σ) post thr (x1) (x2) (x3) (x4) (σ)) ∧ (¬ x1 < (St.I (σ) 22 (x4).toNatClampNeg) → wp_M_reason Γ (x4) (σ) (fun v9 σ10 => (vp_in x4 40 ∧ (vp_in x4 40 ∧ ((¬ (St.I (St.sI (σ10) 28 (x4).toNatClampNeg v9) 28 (x4).toNatClampNeg) = 0 → wp_M_look_128 Γ k60 (fun x1 x2 x3 x4 σ => wp_M_look_68 Γ k60 post thr fuel x1 x2 x3 x4 σ) post thr (x1) (x2) (x3) (x4) (St.sI (σ10) 28 (x4).toNatClampNeg v9)) ∧ ((St.I (St.sI (σ10) 28 (x4).toNatClampNeg v9) 28 (x4).toNatClampNeg) = 0 → wp_M_does Γ (x4) (St.sI (σ10) 28 (x4).toNatClampNeg v9) (fun σ15 => wp_M_look_128 Γ k60 (fun x1 x2 x3 x4 σ => wp_M_look_68 Γ k60 post thr fuel x1 x2 x3 x4 σ) post thr (x1) (x2) (x3) (x4) (σ15)) thr))))) thr))))))))
def wp_M_look_60 (Γ : Ev)  (post : St → Prop) (thr : String → St → Prop) : Nat → Int32 → Int32 → Int32 → St → Prop
  | 0 => fun _ _ _ _ => False
  | fuel + 1 => fun x1 x2 x3 σ => ((x2 < x3 → post (σ)) ∧ (¬ x2 < x3 → (∃ f16, wp_M_look_68 Γ (fun x1 x2 x3 σ => wp_M_look_60 Γ  post thr fuel x1 x2 x3 σ) post thr f16 (x1) (x2) (x3) ((0 : Int32)) (σ))))
def wp_M_look_37 (Γ : Ev)  (post : St → Prop) (thr : String → St → Prop) : Nat → Int32 → Int32 → Int32 → St → Prop
  | 0 => fun _ _ _ _ => False
  | fuel + 1 => fun x1 x2 x3 σ => (((St.I (σ) 20 2) ≤ x3 → (∃ f17, wp_M_look_60 Γ  post thr f17 (x1) (x2) ((0 : Int32)) (σ))) ∧ (¬ (St.I (σ) 20 2) ≤ x3 → (vp_in x3 40 ∧ wp_M_look_37 Γ  post thr fuel (x1) (x2) ((x3 + 1)) (St.sI (σ) 28 (x3).toNatClampNeg (-1 : Int32)))))
def wp_M_look_2 (Γ : Ev)  (post : St → Prop) (thr : String → St → Prop) : Nat → Int32 → Int32 → Int32 → St → Prop
  | 0 => fun _ _ _ _ => False
  | fuel + 1 => fun x1 x2 x3 σ => (((80 : Int32) ≤ x3 → (∃ f19, wp_M_look_37 Γ  post thr f19 (x1) (x2) ((0 : Int32)) (σ))) ∧ (¬ (80 : Int32) ≤ x3 → (vp_in x3 80 ∧ (vp_in x3 80 ∧ (vp_in x3 80 ∧ wp_M_look_2 Γ  post thr fuel (x1) (x2) ((x3 + 1)) (St.sI (St.sI (St.sI (σ) 29 (x3).toNatClampNeg (0 : Int32)) 34 (x3).toNatClampNeg (-1 : Int32)) 35 (x3).toNatClampNeg (-1 : Int32)))))))
def wp_M_look (Γ : Ev) (x1 : Int32) (x2 : Int32) (σ : St) (post : St → Prop) (thr : String → St → Prop) : Prop := (∃ f23, wp_M_look_2 Γ  post thr f23 (x1) (x2) ((0 : Int32)) (σ))
abbrev rm_M_look : Room := { frames := 4, cells := 0, slots := 0, locals := 109 }
set_option maxRecDepth 100000 in
set_option maxHeartbeats 4000000 in
theorem b_M_look_128 {p : Program} {l : Launch} {e : Env} {s : State} {m : MethodId} {args : Array Value} {below : List Frame} {meth : Method} {c : Code} {D : va_G} {AC : Nat → ClassId} {lo : Nat} {Γ : Ev} {post : St → Prop} {thr : String → St → Prop} (hX : Cx p s m args meth c y_M_look b_M_look 5 none [] D AC lo) {k60 : Int32 → Int32 → Int32 → St → Prop} {k68 : Int32 → Int32 → Int32 → Int32 → St → Prop} (hk60 : ∀ (x1 : Int32) (x2 : Int32) (x3 : Int32) (σ : St), k60 x1 x2 x3 σ → G p l e rm_M_look s m args below meth c 5 D lo (pV AC Γ post) (tX AC Γ thr) (wσ AC Γ (σ)) 0 0 60 [(0, .ref (Γ.ad 324)), (1, .int (x1)), (2, .int (x2)), (3, .int (x3))] []) (hk68 : ∀ (x1 : Int32) (x2 : Int32) (x3 : Int32) (x4 : Int32) (σ : St), k68 x1 x2 x3 x4 σ → G p l e rm_M_look s m args below meth c 5 D lo (pV AC Γ post) (tX AC Γ thr) (wσ AC Γ (σ)) 0 0 68 [(0, .ref (Γ.ad 324)), (1, .int (x1)), (2, .int (x2)), (3, .int (x3)), (4, .int (x4))] []) (x1 : Int32) (x2 : Int32) (x3 : Int32) (x4 : Int32) (σ : St) (h : wp_M_look_128 Γ k60 k68 post thr x1 x2 x3 x4 σ) : G p l e rm_M_look s m args below meth c 5 D lo (pV AC Γ post) (tX AC Γ thr) (wσ AC Γ (σ)) 0 0 128 [(0, .ref (Γ.ad 324)), (1, .int (x1)), (2, .int (x2)), (3, .int (x3)), (4, .int (x4))] [] := by
  unfold wp_M_look_128 at h
  refine g_iinc (v := x4 + 1) hX d_M_look_128 4 rfl (congrArg (x4 + ·) (by decide)) (by decide) rfl ?_
  refine g_goto (tgt := 68) hX d_M_look_131 (by decide) ?_
  refine g_sub [1, 2, 3, 4, 0] rfl ?_
  exact hk68 (x1) (x2) (x3) ((x4 + 1)) (σ) h
set_option maxRecDepth 100000 in
set_option maxHeartbeats 4000000 in
theorem b_M_look_68 {p : Program} {l : Launch} {e : Env} {s : State} {m : MethodId} {args : Array Value} {below : List Frame} {meth : Method} {c : Code} {D : va_G} {AC : Nat → ClassId} {lo : Nat} {Γ : Ev} {post : St → Prop} {thr : String → St → Prop} (hX : Cx p s m args meth c y_M_look b_M_look 5 none [] D AC lo) {k60 : Int32 → Int32 → Int32 → St → Prop} (hk60 : ∀ (x1 : Int32) (x2 : Int32) (x3 : Int32) (σ : St), k60 x1 x2 x3 σ → G p l e rm_M_look s m args below meth c 5 D lo (pV AC Γ post) (tX AC Γ thr) (wσ AC Γ (σ)) 0 0 60 [(0, .ref (Γ.ad 324)), (1, .int (x1)), (2, .int (x2)), (3, .int (x3))] []) : ∀ (fuel : Nat) (x1 : Int32) (x2 : Int32) (x3 : Int32) (x4 : Int32) (σ : St), wp_M_look_68 Γ k60 post thr fuel x1 x2 x3 x4 σ → G p l e rm_M_look s m args below meth c 5 D lo (pV AC Γ post) (tX AC Γ thr) (wσ AC Γ (σ)) 0 0 68 [(0, .ref (Γ.ad 324)), (1, .int (x1)), (2, .int (x2)), (3, .int (x3)), (4, .int (x4))] [] := by
  intro fuel
  induction fuel with
  | zero => intro x1 x2 x3 x4 σ h; exact False.elim h
  | succ fuel ih =>
    intro x1 x2 x3 x4 σ h
    simp only [wp_M_look_68] at h
    refine g_iload hX d_M_look_68 4 rfl ?_
    refine g_aload_n hX d_M_look_70 rfl 0 rfl ?_
    refine g_getf (i := 324) (kf := 2) hX (lt_c (by decide)) rfl (lay_MO (AC := AC) (Γ := Γ)) rfl in_M (by decide) t_807 (Or.inl rfl) rfl d_M_look_71 ?_
    refine g_icmp_ge (tgt := 134) hX d_M_look_74 (by decide) (fun q4 => ?_) (fun q4 => ?_)
    · have h := h.1 q4
      refine g_iinc (v := x3 + 1) hX d_M_look_134 3 rfl (congrArg (x3 + ·) (by decide)) (by decide) rfl ?_
      refine g_goto (tgt := 60) hX d_M_look_137 (by decide) ?_
      refine g_sub [1, 2, 3, 0] rfl ?_
      exact hk60 (x1) (x2) ((x3 + 1)) (σ) h
    · have h := h.2 q4
      refine g_aload_n hX d_M_look_77 rfl 0 rfl ?_
      refine g_getf (i := 324) (kf := 5) hX (lt_c (by decide)) rfl (lay_MO (AC := AC) (Γ := Γ)) rfl in_M (by decide) t_810 (Or.inl rfl) rfl d_M_look_78 ?_
      refine g_iload hX d_M_look_81 4 rfl ?_
      obtain ⟨q5, h⟩ := h
      refine g_iald (i := 327) hX (lt_c (by decide)) rfl (lay_m2 (AC := AC) (Γ := Γ)) q5 d_M_look_83 ?_
      refine g_iload_n hX d_M_look_84 rfl 3 rfl ?_
      refine g_icmp_ne (tgt := 128) hX d_M_look_85 (by decide) (fun q6 => ?_) (fun q6 => ?_)
      · have h := h.1 q6
        refine g_sub [0, 1, 2, 3, 4] rfl ?_
        exact b_M_look_128 hX hk60 (fun _ _ _ _ _ z => ih _ _ _ _ _ z) _ _ _ _ _ h
      · have h := h.2 q6
        refine g_aload_n hX d_M_look_88 rfl 0 rfl ?_
        refine g_getf (i := 324) (kf := 4) hX (lt_c (by decide)) rfl (lay_MO (AC := AC) (Γ := Γ)) rfl in_M (by decide) t_809 (Or.inl rfl) rfl d_M_look_89 ?_
        refine g_iload hX d_M_look_92 4 rfl ?_
        obtain ⟨q7, h⟩ := h
        refine g_iald (i := 326) hX (lt_c (by decide)) rfl (lay_m1 (AC := AC) (Γ := Γ)) q7 d_M_look_94 ?_
        refine g_iload_n hX d_M_look_95 rfl 1 rfl ?_
        refine g_icmp_gt (tgt := 128) hX d_M_look_96 (by decide) (fun q8 => ?_) (fun q8 => ?_)
        · have h := h.1 q8
          refine g_sub [0, 1, 2, 3, 4] rfl ?_
          exact b_M_look_128 hX hk60 (fun _ _ _ _ _ z => ih _ _ _ _ _ z) _ _ _ _ _ h
        · have h := h.2 q8
          refine g_aload_n hX d_M_look_99 rfl 0 rfl ?_
          refine g_getf (i := 324) (kf := 10) hX (lt_c (by decide)) rfl (lay_MO (AC := AC) (Γ := Γ)) rfl in_M (by decide) t_815 (Or.inl rfl) rfl d_M_look_100 ?_
          refine g_iload hX d_M_look_103 4 rfl ?_
          refine g_aload_n hX d_M_look_105 rfl 0 rfl ?_
          refine g_iload hX d_M_look_106 4 rfl ?_
          refine g_callV (i := 324) (k := 0) (n := 0) hX (c_M_reason h) hdT_M_reason hdO_M_reason t_3 t_750 t_752 ts_M_reason (lt_c (by decide)) rfl (lay_MO (AC := AC) (Γ := Γ)) rfl ⟨⟨by decide, by decide⟩, np_M_reason⟩ ⟨Nat.le_of_ble_eq_true rfl, Nat.le_of_ble_eq_true rfl⟩ (Nat.le_of_ble_eq_true rfl) d_M_look_108 rfl ?_ (fun _ _ z => z)
          rintro _ _ ⟨v9, σ10, rfl, rfl, h⟩
          obtain ⟨q11, h⟩ := h
          refine g_iast (i := 332) hX (lt_c (by decide)) rfl (lay_m7 (AC := AC) (Γ := Γ)) q11 d_M_look_111 (wσ_m_states (upd (St.I (σ10) 28) (x4).toNatClampNeg v9)) ?_
          refine g_aload_n hX d_M_look_112 rfl 0 rfl ?_
          refine g_getf (i := 324) (kf := 10) hX (lt_c (by decide)) rfl (lay_MO (AC := AC) (Γ := Γ)) rfl in_M (by decide) t_815 (Or.inl rfl) rfl d_M_look_113 ?_
          refine g_iload hX d_M_look_116 4 rfl ?_
          obtain ⟨q12, h⟩ := h
          refine g_iald (i := 332) hX (lt_c (by decide)) rfl (lay_m7 (AC := AC) (Γ := Γ)) q12 d_M_look_118 ?_
          refine g_if_ne (tgt := 128) hX d_M_look_119 (by decide) (fun q13 => ?_) (fun q13 => ?_)
          · have h := h.1 q13
            refine g_sub [0, 1, 2, 3, 4] rfl ?_
            exact b_M_look_128 hX hk60 (fun _ _ _ _ _ z => ih _ _ _ _ _ z) _ _ _ _ _ h
          · have h := h.2 q13
            refine g_aload_n hX d_M_look_122 rfl 0 rfl ?_
            refine g_iload hX d_M_look_123 4 rfl ?_
            refine g_callV (i := 324) (k := 0) (n := 0) hX (c_M_does h) hdT_M_does hdO_M_does t_3 t_781 t_783 ts_M_does (lt_c (by decide)) rfl (lay_MO (AC := AC) (Γ := Γ)) rfl ⟨⟨by decide, by decide⟩, np_M_does⟩ ⟨Nat.le_of_ble_eq_true rfl, Nat.le_of_ble_eq_true rfl⟩ (Nat.le_of_ble_eq_true rfl) d_M_look_125 rfl ?_ (fun _ _ z => z)
            rintro _ _ ⟨σ15, rfl, rfl, h⟩
            refine g_sub [0, 1, 2, 3, 4] rfl ?_
            exact b_M_look_128 hX hk60 (fun _ _ _ _ _ z => ih _ _ _ _ _ z) _ _ _ _ _ h
set_option maxRecDepth 100000 in
set_option maxHeartbeats 4000000 in
theorem b_M_look_60 {p : Program} {l : Launch} {e : Env} {s : State} {m : MethodId} {args : Array Value} {below : List Frame} {meth : Method} {c : Code} {D : va_G} {AC : Nat → ClassId} {lo : Nat} {Γ : Ev} {post : St → Prop} {thr : String → St → Prop} (hX : Cx p s m args meth c y_M_look b_M_look 5 none [] D AC lo)   : ∀ (fuel : Nat) (x1 : Int32) (x2 : Int32) (x3 : Int32) (σ : St), wp_M_look_60 Γ  post thr fuel x1 x2 x3 σ → G p l e rm_M_look s m args below meth c 5 D lo (pV AC Γ post) (tX AC Γ thr) (wσ AC Γ (σ)) 0 0 60 [(0, .ref (Γ.ad 324)), (1, .int (x1)), (2, .int (x2)), (3, .int (x3))] [] := by
  intro fuel
  induction fuel with
  | zero => intro x1 x2 x3 σ h; exact False.elim h
  | succ fuel ih =>
    intro x1 x2 x3 σ h
    simp only [wp_M_look_60] at h
    refine g_iload_n hX d_M_look_60 rfl 3 rfl ?_
    refine g_iload_n hX d_M_look_61 rfl 2 rfl ?_
    refine g_icmp_gt (tgt := 140) hX d_M_look_62 (by decide) (fun q3 => ?_) (fun q3 => ?_)
    · have h := h.1 q3
      exact g_vret hX rfl d_M_look_140 ⟨_, rfl, rfl, h⟩
    · have h := h.2 q3
      refine g_iconst (v := 0) hX d_M_look_65 (by decide) ?_
      refine g_istore hX d_M_look_66 (by decide) rfl ?_
      refine g_sub [1, 2, 3, 4, 0] rfl ?_
      obtain ⟨f16, h⟩ := h
      exact b_M_look_68 hX (fun _ _ _ _ z => ih _ _ _ _ z) f16 _ _ _ _ _ h
set_option maxRecDepth 100000 in
set_option maxHeartbeats 4000000 in
theorem b_M_look_37 {p : Program} {l : Launch} {e : Env} {s : State} {m : MethodId} {args : Array Value} {below : List Frame} {meth : Method} {c : Code} {D : va_G} {AC : Nat → ClassId} {lo : Nat} {Γ : Ev} {post : St → Prop} {thr : String → St → Prop} (hX : Cx p s m args meth c y_M_look b_M_look 5 none [] D AC lo)   : ∀ (fuel : Nat) (x1 : Int32) (x2 : Int32) (x3 : Int32) (σ : St), wp_M_look_37 Γ  post thr fuel x1 x2 x3 σ → G p l e rm_M_look s m args below meth c 5 D lo (pV AC Γ post) (tX AC Γ thr) (wσ AC Γ (σ)) 0 0 37 [(0, .ref (Γ.ad 324)), (1, .int (x1)), (2, .int (x2)), (3, .int (x3))] [] := by
  intro fuel
  induction fuel with
  | zero => intro x1 x2 x3 σ h; exact False.elim h
  | succ fuel ih =>
    intro x1 x2 x3 σ h
    simp only [wp_M_look_37] at h
    refine g_iload_n hX d_M_look_37 rfl 3 rfl ?_
    refine g_aload_n hX d_M_look_38 rfl 0 rfl ?_
    refine g_getf (i := 324) (kf := 2) hX (lt_c (by decide)) rfl (lay_MO (AC := AC) (Γ := Γ)) rfl in_M (by decide) t_807 (Or.inl rfl) rfl d_M_look_39 ?_
    refine g_icmp_ge (tgt := 58) hX d_M_look_42 (by decide) (fun q2 => ?_) (fun q2 => ?_)
    · have h := h.1 q2
      refine g_iconst (v := 0) hX d_M_look_58 (by decide) ?_
      refine g_istore_n hX d_M_look_59 rfl (by decide) rfl ?_
      refine g_sub [1, 2, 3, 0] rfl ?_
      obtain ⟨f17, h⟩ := h
      exact b_M_look_60 hX  f17 _ _ _ _ h
    · have h := h.2 q2
      refine g_aload_n hX d_M_look_45 rfl 0 rfl ?_
      refine g_getf (i := 324) (kf := 10) hX (lt_c (by decide)) rfl (lay_MO (AC := AC) (Γ := Γ)) rfl in_M (by decide) t_815 (Or.inl rfl) rfl d_M_look_46 ?_
      refine g_iload_n hX d_M_look_49 rfl 3 rfl ?_
      refine g_iconst (v := -1) hX d_M_look_50 (by decide) ?_
      obtain ⟨q18, h⟩ := h
      refine g_iast (i := 332) hX (lt_c (by decide)) rfl (lay_m7 (AC := AC) (Γ := Γ)) q18 d_M_look_51 (wσ_m_states (upd (St.I (σ) 28) (x3).toNatClampNeg (-1 : Int32))) ?_
      refine g_iinc (v := x3 + 1) hX d_M_look_52 3 rfl (congrArg (x3 + ·) (by decide)) (by decide) rfl ?_
      refine g_goto (tgt := 37) hX d_M_look_55 (by decide) ?_
      refine g_sub [1, 2, 3, 0] rfl ?_
      exact ih (x1) (x2) ((x3 + 1)) (St.sI (σ) 28 (x3).toNatClampNeg (-1 : Int32)) h
set_option maxRecDepth 100000 in
set_option maxHeartbeats 4000000 in
theorem b_M_look_2 {p : Program} {l : Launch} {e : Env} {s : State} {m : MethodId} {args : Array Value} {below : List Frame} {meth : Method} {c : Code} {D : va_G} {AC : Nat → ClassId} {lo : Nat} {Γ : Ev} {post : St → Prop} {thr : String → St → Prop} (hX : Cx p s m args meth c y_M_look b_M_look 5 none [] D AC lo)   : ∀ (fuel : Nat) (x1 : Int32) (x2 : Int32) (x3 : Int32) (σ : St), wp_M_look_2 Γ  post thr fuel x1 x2 x3 σ → G p l e rm_M_look s m args below meth c 5 D lo (pV AC Γ post) (tX AC Γ thr) (wσ AC Γ (σ)) 0 0 2 [(0, .ref (Γ.ad 324)), (1, .int (x1)), (2, .int (x2)), (3, .int (x3))] [] := by
  intro fuel
  induction fuel with
  | zero => intro x1 x2 x3 σ h; exact False.elim h
  | succ fuel ih =>
    intro x1 x2 x3 σ h
    simp only [wp_M_look_2] at h
    refine g_iload_n hX d_M_look_2 rfl 3 rfl ?_
    refine g_bipush (v := 80) hX d_M_look_3 (by decide) ?_
    refine g_icmp_ge (tgt := 35) hX d_M_look_5 (by decide) (fun q1 => ?_) (fun q1 => ?_)
    · have h := h.1 q1
      refine g_iconst (v := 0) hX d_M_look_35 (by decide) ?_
      refine g_istore_n hX d_M_look_36 rfl (by decide) rfl ?_
      refine g_sub [1, 2, 3, 0] rfl ?_
      obtain ⟨f19, h⟩ := h
      exact b_M_look_37 hX  f19 _ _ _ _ h
    · have h := h.2 q1
      refine g_aload_n hX d_M_look_8 rfl 0 rfl ?_
      refine g_getf (i := 324) (kf := 11) hX (lt_c (by decide)) rfl (lay_MO (AC := AC) (Γ := Γ)) rfl in_M (by decide) t_816 (Or.inl rfl) rfl d_M_look_9 ?_
      refine g_iload_n hX d_M_look_12 rfl 3 rfl ?_
      refine g_iconst (v := 0) hX d_M_look_13 (by decide) ?_
      obtain ⟨q20, h⟩ := h
      refine g_zast (i := 333) hX (lt_c (by decide)) rfl (lay_m8 (AC := AC) (Γ := Γ)) q20 d_M_look_14 (wσ_m_mlives (upd (St.I (σ) 29) (x3).toNatClampNeg (0 : Int32))) ?_
      refine g_aload_n hX d_M_look_15 rfl 0 rfl ?_
      refine g_getf (i := 324) (kf := 19) hX (lt_c (by decide)) rfl (lay_MO (AC := AC) (Γ := Γ)) rfl in_M (by decide) t_824 (Or.inl rfl) rfl d_M_look_16 ?_
      refine g_iload_n hX d_M_look_19 rfl 3 rfl ?_
      refine g_iconst (v := -1) hX d_M_look_20 (by decide) ?_
      obtain ⟨q21, h⟩ := h
      refine g_iast (i := 341) hX (lt_c (by decide)) rfl (lay_m16 (AC := AC) (Γ := Γ)) q21 d_M_look_21 (wσ_m_from (upd (St.I (St.sI (σ) 29 (x3).toNatClampNeg (0 : Int32)) 34) (x3).toNatClampNeg (-1 : Int32))) ?_
      refine g_aload_n hX d_M_look_22 rfl 0 rfl ?_
      refine g_getf (i := 324) (kf := 20) hX (lt_c (by decide)) rfl (lay_MO (AC := AC) (Γ := Γ)) rfl in_M (by decide) t_825 (Or.inl rfl) rfl d_M_look_23 ?_
      refine g_iload_n hX d_M_look_26 rfl 3 rfl ?_
      refine g_iconst (v := -1) hX d_M_look_27 (by decide) ?_
      obtain ⟨q22, h⟩ := h
      refine g_iast (i := 342) hX (lt_c (by decide)) rfl (lay_m17 (AC := AC) (Γ := Γ)) q22 d_M_look_28 (wσ_m_also (upd (St.I (St.sI (St.sI (σ) 29 (x3).toNatClampNeg (0 : Int32)) 34 (x3).toNatClampNeg (-1 : Int32)) 35) (x3).toNatClampNeg (-1 : Int32))) ?_
      refine g_iinc (v := x3 + 1) hX d_M_look_29 3 rfl (congrArg (x3 + ·) (by decide)) (by decide) rfl ?_
      refine g_goto (tgt := 2) hX d_M_look_32 (by decide) ?_
      refine g_sub [1, 2, 3, 0] rfl ?_
      exact ih (x1) (x2) ((x3 + 1)) (St.sI (St.sI (St.sI (σ) 29 (x3).toNatClampNeg (0 : Int32)) 34 (x3).toNatClampNeg (-1 : Int32)) 35 (x3).toNatClampNeg (-1 : Int32)) h
set_option maxRecDepth 100000 in
set_option maxHeartbeats 4000000 in
theorem c_M_look {l : Launch} {D : va_G} {AC : Nat → ClassId} {lo : Nat} {Γ : Ev} {x1 : Int32} {x2 : Int32} {σ : St} {post : St → Prop} {thr : String → St → Prop} (h : wp_M_look Γ x1 x2 σ post thr) : Ct l y_M_look hd_M_look rm_M_look D AC lo [.ref (Γ.ad 324), .int (x1), .int (x2)] (wσ AC Γ σ) (pV AC Γ post) (tX AC Γ thr) := by
  refine Ct.of (by decide) (Nat.le_of_ble_eq_true rfl) ?_
  intro p e s m args below meth c hadm hX
  unfold wp_M_look at h
  show G p l e rm_M_look s m args below meth c 5 D lo (pV AC Γ post) (tX AC Γ thr) (wσ AC Γ (σ)) 0 0 0 [(0, .ref (Γ.ad 324)), (1, .int (x1)), (2, .int (x2))] []
  refine g_iconst (v := 0) hX d_M_look_0 (by decide) ?_
  refine g_istore_n hX d_M_look_1 rfl (by decide) rfl ?_
  refine g_sub [1, 2, 3, 0] rfl ?_
  obtain ⟨f23, h⟩ := h
  exact b_M_look_2 hX  f23 _ _ _ _ h
