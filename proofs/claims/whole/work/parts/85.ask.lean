/-! Queries: share, mortgage, origin, state, and area, cautions, day, view in the common form -/
theorem vp_pc {x : Int32} (h : pcOK x) : vp_in x 80 := by
  obtain ⟨e, l⟩ := xN_pc h
  rw [e]
  exact vp_in_nI l (by decide)
theorem vp_ps {x : Int32} (h : psOK x) : vp_in x 8 := by
  obtain ⟨e, l⟩ := xN_ps h
  rw [e]
  exact vp_in_nI l (by decide)
theorem sameM_rfl {σ : St} : sameM σ σ := ⟨fun _ _ => rfl, fun _ _ => rfl⟩
section ASK
variable {Γ : Ev} {σ : St} {ds : Nat → Dd} {N T : Nat} {V : Vw} {x1 x2 x3 : Int32}
theorem IC.R (h : IC Γ σ ds N T V) : RC σ V.1 := h.2.2.2.2.2.2.1
theorem IM.R (h : IM σ ds N T V) : RM σ V.1 := h.2.2.2.1
/-- a query of the class, of the reference -/
theorem ask_C {α : Type} {b : α} {post : α → St → Prop} {cond : Prop} (hi : IC Γ σ ds N T V) (h : cond → ∀ σ', IC Γ σ' ds N T V → sameM σ σ' → σ'.L 6 = σ.L 6 → post b σ') (c : cond) : post b σ := h c σ hi sameM_rfl rfl
theorem ask_M {α : Type} {b : α} {post : α → St → Prop} {cond : Prop} (hm : IM σ ds N T V) (h : cond → ∀ σ', IM σ' ds N T V → sameC σ σ' → σ'.L 6 = σ.L 6 → σ'.I 20 0 = 0 → post b σ') (c : cond) : post b (St.sI σ 20 0 0) := h c _ hm.t20 sameC_20 rfl (by rw [I_aI_s, pk_us])
theorem gC_area (hi : IC Γ σ ds N T V) : sgC Γ σ ds N T V (pcOK x1) (areaA V.1 ((x1).toNatClampNeg)) "java/lang/IllegalArgumentException" (wp_LR_area Γ x1 σ) := by
  intro post thr h hx
  refine ok_areaC Γ hi.R (fun p e hp => ?_) hx
  have c : pcOK x1 := by rw [e]; exact ⟨nI_pos (by omega), nI_lt (b := 80) hp (by decide)⟩
  have z := ask_C hi h c
  rw [e, nI_clamp (by omega)] at z
  exact z
theorem gM_area (hm : IM σ ds N T V) : sgM σ ds N T V (pcOK x1) (areaA V.1 ((x1).toNatClampNeg)) (wp_M_area Γ x1 σ) := by
  intro post thr h hx
  refine ok_areaM Γ hm.R (fun p e hp => ?_) (fun c => hx c 0)
  have c : pcOK x1 := by rw [e]; exact ⟨nI_pos (by omega), nI_lt (b := 80) hp (by decide)⟩
  have z := ask_M hm h c
  rw [e, nI_clamp (by omega)] at z
  exact z
theorem gC_caut (hi : IC Γ σ ds N T V) : sgC Γ σ ds N T V (pcOK x1) (cautA V.1 ((x1).toNatClampNeg)) "java/lang/IllegalArgumentException" (wp_LR_cautions Γ x1 σ) := by
  intro post thr h hx
  refine ok_cautC Γ hi.R (fun p e hp => ?_) hx
  have c : pcOK x1 := by rw [e]; exact ⟨nI_pos (by omega), nI_lt (b := 80) hp (by decide)⟩
  have z := ask_C hi h c
  rw [e, nI_clamp (by omega)] at z
  exact z
theorem gM_caut (hm : IM σ ds N T V) : sgM σ ds N T V (pcOK x1) (cautA V.1 ((x1).toNatClampNeg)) (wp_M_cautions Γ x1 σ) := by
  intro post thr h hx
  refine ok_cautM Γ hm.R (fun p e hp => ?_) (fun c => hx c 0)
  have c : pcOK x1 := by rw [e]; exact ⟨nI_pos (by omega), nI_lt (b := 80) hp (by decide)⟩
  have z := ask_M hm h c
  rw [e, nI_clamp (by omega)] at z
  exact z
theorem gC_day (hd : dsOK ds N T) (hi : IC Γ σ ds N T V) : sgC Γ σ ds N (T + 1) (viewA ds (T + 1) (T + 1) (ordL ds N 61)) (T < 60) (nI (T + 1)) "java/lang/IllegalStateException" (wp_LR_day Γ σ) := by
  intro post thr h hx
  exact ok_dayC Γ hd hi.to0 h (fun e => hx (by omega))
theorem gM_day (hd : dsOK ds N T) (hm : IM σ ds N T V) : sgM σ ds N (T + 1) (viewA ds (T + 1) (T + 1) (ordL ds N 61)) (T < 60) (nI (T + 1)) (wp_M_day Γ σ) := by
  intro post thr h hx
  exact ok_dayM Γ hd hm.to0 h (fun e => hx (by omega) 0)
theorem gC_view (hd : dsOK ds N T) (hi : IC Γ σ ds N T V) : sgC Γ σ ds N T (viewA ds ((x1).toNatClampNeg) ((x2).toNatClampNeg) (ordL ds N 61)) (vwOK (nI T) x1 x2) (nI (cntA (viewA ds ((x1).toNatClampNeg) ((x2).toNatClampNeg) (ordL ds N 61)).1 80)) "java/lang/IllegalArgumentException" (wp_LR_view Γ x1 x2 σ) := by
  intro post thr h hx
  refine ok_viewC Γ hd hi.to0 (fun rc fc e1 e2 h1 h2 c σ' a s l => ?_) hx
  have f1 : (x1).toNatClampNeg = rc := by rw [e1]; exact nI_clamp (by omega)
  have f2 : (x2).toNatClampNeg = fc := by rw [e2]; exact nI_clamp (by omega)
  subst f1 f2
  exact h c σ' a s l
theorem gM_view (hd : dsOK ds N T) (hm : IM σ ds N T V) : sgM σ ds N T (viewA ds ((x1).toNatClampNeg) ((x2).toNatClampNeg) (ordL ds N 61)) (vwOK (nI T) x1 x2) (nI (cntA (viewA ds ((x1).toNatClampNeg) ((x2).toNatClampNeg) (ordL ds N 61)).1 80)) (wp_M_view Γ x1 x2 σ) := by
  intro post thr h hx
  refine ok_viewM Γ hd hm.to0 (fun rc fc e1 e2 h1 h2 c σ' a s l t => ?_) (fun c => hx c 0)
  have f1 : (x1).toNatClampNeg = rc := by rw [e1]; exact nI_clamp (by omega)
  have f2 : (x2).toNatClampNeg = fc := by rw [e2]; exact nI_clamp (by omega)
  subst f1 f2
  exact h c σ' a s l t
def shareA (A : Land) (p s : Nat) : Int64 := match A.1 p with
  | none => 0
  | some x => pkS (x.sh s)
theorem gC_share (hi : IC Γ σ ds N T V) : sgC Γ σ ds N T V (pcOK x1 ∧ psOK x2) (shareA V.1 ((x1).toNatClampNeg) ((x2).toNatClampNeg)) "java/lang/IllegalArgumentException" (wp_LR_share Γ x1 x2 σ) := by
  intro post thr h hx
  refine rq_parcel (fun a => rq_person (fun b => ?_) (fun y => hx (fun w => y w.2))) (fun y => hx (fun w => y w.1))
  have hh := ask_C hi h ⟨a, b⟩
  have z := hi.R.1 ((x1).toNatClampNeg) (xN_pc a).2
  refine ⟨vp_pc a, ?_⟩
  unfold shareA at hh
  cases hA : V.1.1 ((x1).toNatClampNeg) with
  | none => rw [hA] at z hh; exact ⟨fun _ => hh, fun w => absurd z w⟩
  | some x => rw [hA] at z hh; exact ⟨fun w => absurd (z.1.symm.trans w) (by decide), fun _ => ⟨vp_ps b, by rw [z.2.2.1 ((x2).toNatClampNeg) (xN_ps b).2]; exact hh⟩⟩
theorem gM_share (hm : IM σ ds N T V) (hl : LB 41 V.1) : sgM σ ds N T V (pcOK x1 ∧ psOK x2) (shareA V.1 ((x1).toNatClampNeg) ((x2).toNatClampNeg)) (wp_M_share Γ x1 x2 σ) := by
  intro post thr h hx
  have bad : ¬ (pcOK x1 ∧ psOK x2) → wp_M_share_20 Γ post thr x1 x2 1 σ := fun w => ⟨fun _ => hx w 0, fun z => absurd (by rw [I_aI_s, pk_us]; decide) z⟩
  refine no_parcel (fun a => ⟨fun z => absurd rfl z, fun _ => no_person (fun b => ⟨fun _ => ?_, fun z => absurd rfl z⟩) (fun y => ⟨fun z => absurd z (by decide), fun _ => bad (fun w => y w.2)⟩)⟩) (fun y => ⟨fun _ => bad (fun w => y w.1), fun z => absurd z (by decide)⟩)
  have hh := ask_M hm h ⟨a, b⟩
  have z := hm.R.1 ((x1).toNatClampNeg) (xN_pc a).2
  have l1 := (xN_pc a).2
  have l2 := (xN_ps b).2
  have ix : (8 : Int32) * x1 + x2 = nI (8 * (x1).toNatClampNeg + (x2).toNatClampNeg) := by
    have e := i8 (p := (x1).toNatClampNeg) (s := (x2).toNatClampNeg)
    rw [← (xN_pc a).1, ← (xN_ps b).1] at e
    exact e
  refine ⟨fun w => absurd w (by rw [I_aI_s, pk_us]; decide), fun _ => ⟨vp_pc a, ?_⟩⟩
  rw [I_aI_n (by decide), L_aI, ix, nI_clamp (by omega)]
  have iv : vp_in (nI (8 * (x1).toNatClampNeg + (x2).toNatClampNeg)) 640 := vp_in_nI (by omega) (by decide)
  unfold shareA at hh
  cases hA : V.1.1 ((x1).toNatClampNeg) with
  | none => rw [hA] at z hh; exact ⟨fun _ => hh, fun w => absurd z w⟩
  | some x =>
    rw [hA] at z hh
    have hb := (hl ((x1).toNatClampNeg) l1 x hA).1 ((x2).toNatClampNeg) l2
    have ho := hb.ok (by decide)
    refine ⟨fun w => absurd (z.1.symm.trans w) (by decide), fun _ => ⟨iv, ?_⟩⟩
    rw [(z.2.2.1 ((x2).toNatClampNeg) l2).1, (z.2.2.1 ((x2).toNatClampNeg) l2).2]
    obtain ⟨h1, h2, h3, h4⟩ := ho
    unfold pkS at hh
    dsimp only at hh
    by_cases c : (x.sh ((x2).toNatClampNeg)).1 = 0
    · rw [if_pos c] at hh
      exact ⟨fun w => absurd ((lg_cmp_eq _ _).mpr (by rw [c]; rfl)) w, fun _ => hh⟩
    · rw [if_neg c] at hh
      refine ⟨fun _ => ⟨iv, iv, ?_⟩, fun w => absurd ((lg_cmp_eq _ _).mp w) (lN_ne0 (by omega) (by omega))⟩
      rw [btg_shl (k := 32) (p := 4294967296) (by decide) (by decide) (by decide) (by omega), btg_or (k := 32) (p := 4294967296) (by decide) (by omega) (by omega)]
      exact hh
def origA (A : Land) (p : Nat) (w : Int32) : Int32 := if w = 0 then (A.2 p).1 else if w = 1 then (A.2 p).2 else -1
theorem gC_origin (hi : IC Γ σ ds N T V) : sgC Γ σ ds N T V (pcOK x1) (origA V.1 ((x1).toNatClampNeg) x2) "java/lang/IllegalArgumentException" (wp_LR_origin Γ x1 x2 σ) := by
  intro post thr h hx
  refine rq_parcel (fun a => ⟨vp_pc a, ?_⟩) hx
  have hh := ask_C hi h a
  have z := hi.R.2 ((x1).toNatClampNeg) (xN_pc a).2
  unfold origA at hh
  rw [z.1, z.2]
  by_cases c0 : x2 = 0
  · rw [if_pos c0] at hh
    exact ⟨fun w => absurd c0 w, fun _ => hh⟩
  · rw [if_neg c0] at hh
    by_cases c1 : x2 = 1
    · rw [if_pos c1] at hh; exact ⟨fun _ => ⟨fun w => absurd c1 w, fun _ => hh⟩, fun w => absurd w c0⟩
    · rw [if_neg c1] at hh; exact ⟨fun _ => ⟨fun _ => hh, fun w => absurd w c1⟩, fun w => absurd w c0⟩
theorem gM_origin (hm : IM σ ds N T V) : sgM σ ds N T V (pcOK x1) (origA V.1 ((x1).toNatClampNeg) x2) (wp_M_origin Γ x1 x2 σ) := by
  intro post thr h hx
  refine no_parcel (fun a => ⟨fun _ => ?_, fun z => absurd rfl z⟩) (fun y => ⟨fun z => absurd z (by decide), fun _ => ⟨fun w => absurd w (by rw [I_aI_s, pk_us]; decide), fun _ => hx y 0⟩⟩)
  have hh := ask_M hm h a
  have z := hm.R.2 ((x1).toNatClampNeg) (xN_pc a).2
  refine ⟨fun _ => ?_, fun w => absurd (by rw [I_aI_s, pk_us]; decide) w⟩
  rw [I_aI_n (by decide), I_aI_n (by decide), z.1, z.2]
  unfold origA at hh
  by_cases c0 : x2 = 0
  · rw [if_pos c0] at hh
    exact ⟨fun w => absurd c0 w, fun _ => ⟨vp_pc a, hh⟩⟩
  · rw [if_neg c0] at hh
    by_cases c1 : x2 = 1
    · rw [if_pos c1] at hh; exact ⟨fun _ => ⟨fun w => absurd c1 w, fun _ => ⟨vp_pc a, hh⟩⟩, fun w => absurd w c0⟩
    · rw [if_neg c1] at hh; exact ⟨fun _ => ⟨fun _ => hh, fun w => absurd w c1⟩, fun w => absurd w c0⟩
theorem gC_state (hd : dsOK ds N T) (hi : IC Γ σ ds N T V) : sgC Γ σ ds N T V (¬ x1 < 0 ∧ x1 < nI N) (V.2 ((x1).toNatClampNeg)) "java/lang/IndexOutOfBoundsException" (wp_LR_state Γ x1 σ) := by
  intro post thr h hx
  have hN := hd.1
  unfold wp_LR_state
  rw [hi.2.1]
  refine ⟨fun z => hx (fun w => w.1 z), fun z1 => ⟨fun z2 => ?_, fun z => hx (fun w => z w.2)⟩⟩
  have hh := ask_C hi h ⟨z1, z2⟩
  obtain ⟨e, l⟩ := xN_of z1
  have hn : (x1).toNatClampNeg < N := by rw [e] at z2; exact (nI_ltI l (by omega)).mp z2
  have hc := hi.2.2.2.2.2.1 ((x1).toNatClampNeg) hn
  have hk := dOK_k (hd.2.2 ((x1).toNatClampNeg) hn).1
  refine ⟨?_, (x1).toNatClampNeg, hi.2.2.2.2.1 ((x1).toNatClampNeg) hn, hc.1, by rw [hc.2.1]; omega, ?_⟩
  · rw [e]; exact vp_in_nI (by omega) (by decide)
  · rw [hi.2.2.2.2.2.2.2 ((x1).toNatClampNeg) hn]; exact hh
theorem gM_state (hd : dsOK ds N T) (hm : IM σ ds N T V) : sgM σ ds N T V (¬ x1 < 0 ∧ x1 < nI N) (V.2 ((x1).toNatClampNeg)) (wp_M_state Γ x1 σ) := by
  intro post thr h hx
  have hN := hd.1
  have bad : ¬ (¬ x1 < 0 ∧ x1 < nI N) → wp_M_state_13 Γ post thr x1 σ := fun w => ⟨fun z => absurd z (by rw [I_aI_s, pk_us]; decide), fun _ => hx w 0⟩
  unfold wp_M_state
  rw [hm.2.1]
  refine ⟨fun z => bad (fun w => w.1 z), fun z1 => ⟨fun z2 => ?_, fun z => bad (fun w => z w.2)⟩⟩
  have hh := ask_M hm h ⟨z1, z2⟩
  obtain ⟨e, l⟩ := xN_of z1
  have hn : (x1).toNatClampNeg < N := by rw [e] at z2; exact (nI_ltI l (by omega)).mp z2
  refine ⟨fun _ => ⟨?_, ?_⟩, fun w => absurd (by rw [I_aI_s, pk_us]; decide) w⟩
  · rw [e]; exact vp_in_nI (by omega) (by decide)
  · rw [I_aI_n (by decide), hm.2.2.2.2 ((x1).toNatClampNeg) hn]; exact hh
def mortA (A : Land) (p : Nat) (x2 x3 : Int32) : Int32 := match A.1 p with
  | none => -1
  | some x => if rkOK x2 ∧ (x2).toNatClampNeg ≤ x.mn then (if x3 = 0 then (x.mo ((x2).toNatClampNeg - 1)).1 else if x3 = 1 then (x.mo ((x2).toNatClampNeg - 1)).2 else -1) else -1
theorem mo_rank {m : Nat} (hm : m ≤ 4) : (¬ x2 < 1 ∧ x2 ≤ nI m) ↔ (rkOK x2 ∧ (x2).toNatClampNeg ≤ m) := by
  constructor
  · intro h
    obtain ⟨e, l⟩ := xN_of (n1_0 h.1)
    have h2 := h.2
    rw [e] at h2
    have h3 := (nI_leI l (by omega)).mp h2
    refine ⟨⟨h.1, ?_⟩, h3⟩
    rw [e]
    exact nI_le (b := 4) (by omega) (by decide)
  · intro h
    refine ⟨h.1.1, ?_⟩
    rw [(xN_rk h.1).1]
    exact nI_le h.2 (by omega)
theorem mo_idx (h : rkOK x2) : x2 - 1 = nI ((x2).toNatClampNeg - 1) ∧ (x2).toNatClampNeg - 1 < 4 := by
  obtain ⟨e, l, u⟩ := xN_rk h
  refine ⟨?_, by omega⟩
  have z := nI_m1 (j := (x2).toNatClampNeg) l
  rw [← e] at z
  exact z
theorem gC_mort (hi : IC Γ σ ds N T V) (hl : LB 41 V.1) : sgC Γ σ ds N T V (pcOK x1) (mortA V.1 ((x1).toNatClampNeg) x2 x3) "java/lang/IllegalArgumentException" (wp_LR_mortgage Γ x1 x2 x3 σ) := by
  intro post thr h hx
  refine rq_parcel (fun a => ⟨vp_pc a, ?_⟩) hx
  have hh := ask_C hi h a
  have z := hi.R.1 ((x1).toNatClampNeg) (xN_pc a).2
  unfold mortA at hh
  cases hA : V.1.1 ((x1).toNatClampNeg) with
  | none => rw [hA] at z hh; exact ⟨fun _ => hh, fun w => absurd z w⟩
  | some x =>
    rw [hA] at z hh
    dsimp only at hh
    have hm4 := (hl ((x1).toNatClampNeg) (xN_pc a).2 x hA).2
    obtain ⟨z1, z2, z3, z4, z5, z6⟩ := z
    rw [z4]
    refine ⟨fun w => absurd (z1.symm.trans w) (by decide), fun _ => ?_⟩
    by_cases c : rkOK x2 ∧ (x2).toNatClampNeg ≤ x.mn
    · rw [if_pos c] at hh
      have g := (mo_rank (x2 := x2) hm4).mpr c
      obtain ⟨e, l⟩ := mo_idx c.1
      have iv : vp_in (nI ((x2).toNatClampNeg - 1)) 4 := vp_in_nI l (by decide)
      have hlt : (x2).toNatClampNeg - 1 < x.mn := by have := (xN_rk c.1).2.1; have := c.2; omega
      refine ⟨fun w => absurd w g.1, fun _ => ⟨fun _ => ?_, fun w => absurd g.2 w⟩⟩
      rw [e, nI_clamp (by omega), (z5 _ hlt).1, (z5 _ hlt).2]
      by_cases c0 : x3 = 0
      · rw [if_pos c0] at hh
        exact ⟨fun w => absurd c0 w, fun _ => ⟨iv, hh⟩⟩
      · rw [if_neg c0] at hh
        by_cases c1 : x3 = 1
        · rw [if_pos c1] at hh; exact ⟨fun _ => ⟨fun w => absurd c1 w, fun _ => ⟨iv, hh⟩⟩, fun w => absurd w c0⟩
        · rw [if_neg c1] at hh; exact ⟨fun _ => ⟨fun _ => hh, fun w => absurd w c1⟩, fun w => absurd w c0⟩
    · rw [if_neg c] at hh
      exact ⟨fun _ => hh, fun w1 => ⟨fun w2 => absurd ((mo_rank hm4).mp ⟨w1, w2⟩) c, fun _ => hh⟩⟩
theorem gM_mort (hm : IM σ ds N T V) (hl : LB 41 V.1) : sgM σ ds N T V (pcOK x1) (mortA V.1 ((x1).toNatClampNeg) x2 x3) (wp_M_mortgage Γ x1 x2 x3 σ) := by
  intro post thr h hx
  refine no_parcel (fun a => ⟨fun _ => ?_, fun z => absurd rfl z⟩) (fun y => ⟨fun z => absurd z (by decide), fun _ => ⟨fun w => absurd w (by rw [I_aI_s, pk_us]; decide), fun _ => hx y 0⟩⟩)
  have hh := ask_M hm h a
  have z := hm.R.1 ((x1).toNatClampNeg) (xN_pc a).2
  refine ⟨fun _ => ⟨vp_pc a, ?_⟩, fun w => absurd (by rw [I_aI_s, pk_us]; decide) w⟩
  simp (disch := decide) only [I_aI_n]
  unfold mortA at hh
  cases hA : V.1.1 ((x1).toNatClampNeg) with
  | none => rw [hA] at z hh; exact ⟨fun _ => hh, fun w => absurd z w⟩
  | some x =>
    rw [hA] at z hh
    dsimp only at hh
    have hm4 := (hl ((x1).toNatClampNeg) (xN_pc a).2 x hA).2
    obtain ⟨z1, z2, z3, z4, z5, z6⟩ := z
    rw [z4]
    refine ⟨fun w => absurd (z1.symm.trans w) (by decide), fun _ => ?_⟩
    by_cases c : rkOK x2 ∧ (x2).toNatClampNeg ≤ x.mn
    · rw [if_pos c] at hh
      have g := (mo_rank (x2 := x2) hm4).mpr c
      have hp := (xN_pc a).2
      have hr := xN_rk c.1
      have hlt : (x2).toNatClampNeg - 1 < x.mn := by have := hr.2.1; have := c.2; omega
      have ix : (4 : Int32) * x1 + x2 - 1 = nI (4 * (x1).toNatClampNeg + ((x2).toNatClampNeg - 1)) := by
        have e := i4 (p := (x1).toNatClampNeg) (s := (x2).toNatClampNeg)
        rw [← (xN_pc a).1, ← hr.1] at e
        rw [e, nI_m1 (by omega)]
        congr 1
        omega
      have iv : vp_in (nI (4 * (x1).toNatClampNeg + ((x2).toNatClampNeg - 1))) 320 := vp_in_nI (by omega) (by decide)
      refine ⟨fun w => absurd w g.1, fun _ => ⟨vp_pc a, fun _ => ?_, fun w => absurd g.2 w⟩⟩
      rw [ix, nI_clamp (by omega), (z5 _ hlt).1, (z5 _ hlt).2]
      by_cases c0 : x3 = 0
      · rw [if_pos c0] at hh
        exact ⟨fun w => absurd c0 w, fun _ => ⟨iv, hh⟩⟩
      · rw [if_neg c0] at hh
        by_cases c1 : x3 = 1
        · rw [if_pos c1] at hh; exact ⟨fun _ => ⟨fun w => absurd c1 w, fun _ => ⟨iv, hh⟩⟩, fun w => absurd w c0⟩
        · rw [if_neg c1] at hh; exact ⟨fun _ => ⟨fun _ => hh, fun w => absurd w c1⟩, fun w => absurd w c0⟩
    · rw [if_neg c] at hh
      exact ⟨fun _ => hh, fun w1 => ⟨vp_pc a, fun w2 => absurd ((mo_rank hm4).mp ⟨w1, w2⟩) c, fun _ => hh⟩⟩
end ASK
