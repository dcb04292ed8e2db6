/-! day of the reference; how many parcels live -/
theorem dM.keep' {σ : St} {n : Nat} {d : Dd} {f : Nat → Int32} (h : dM σ n d) : dM (σ.aI 20 f) n d := by
  obtain ⟨d1, d2, d3, d4, d5, d6, d7, d8⟩ := h
  refine ⟨?_, ?_, ?_, ?_, ?_, ?_, ?_, ?_⟩
  all_goals simp (disch := omega) only [I_aI_n]
  all_goals assumption
theorem sameC_20 {σ : St} {f : Nat → Int32} : sameC σ (σ.aI 20 f) := ⟨fun k hk => I_aI_n (by omega), fun _ _ => rfl, rfl⟩
theorem sameC.tr {σ σ1 σ2 : St} (h : sameC σ σ1) (g : sameC σ1 σ2) : sameC σ σ2 := ⟨fun k hk => (g.1 k hk).trans (h.1 k hk), fun k hk => (g.2.1 k hk).trans (h.2.1 k hk), g.2.2.trans h.2.2⟩
theorem ok_dayM (Γ : Ev) {σ : St} {ds : Nat → Dd} {N T : Nat} (hd : dsOK ds N T) (hi : IM0 σ ds N T) {post : Int32 → St → Prop} {thr : String → St → Prop} (h : T < 60 → ∀ σ', IM σ' ds N (T + 1) (viewA ds (T + 1) (T + 1) (ordL ds N 61)) → sameC σ σ' → σ'.L 6 = σ.L 6 → σ'.I 20 0 = 0 → post (nI (T + 1)) σ') (hx : T = 60 → post 0 (St.sI σ 20 0 1)) : wp_M_day Γ σ post thr := by
  obtain ⟨h1, h2, h3⟩ := hi
  have hT := hd.2.1
  have q : nI T = (60 : Int32) ↔ T = 60 := nI_eq (b := 60) (by omega) (by decide)
  unfold wp_M_day wp_M_day_15
  rw [h1]
  simp (disch := omega) only [I_aI_s, pk_us, pk_un, h1]
  refine ⟨fun z => ⟨fun _ => ?_, fun w => absurd (by decide) w⟩, fun z => ⟨fun w => absurd w (by decide), fun _ => hx (q.mp z)⟩⟩
  have hlt : T < 60 := by
    by_cases w : T = 60
    · exact absurd (q.mpr w) z
    · omega
  rw [nI_1]
  refine im_look Γ (T := T + 1) ⟨hd.1, by omega, hd.2.2⟩ ⟨?_, ?_, fun n hn => (h3 n hn).keep'.keep'⟩ (by omega) (by omega) (fun σ' a k => ?_)
  · simp (disch := omega) only [I_aI_s, pk_us]
  · simp (disch := omega) only [I_aI_s, pk_un]; exact h2
  · rw [a.1]
    refine h hlt σ' a ((sameC_20.tr sameC_20).tr k.C) (k.2.1 6 (by omega)) ?_
    rw [k.1 20 (by omega)]
    simp (disch := omega) only [I_aI_s, pk_us, pk_un]
/-- how many of the first n parcels live -/
def cntA (A : Land) : Nat → Nat
  | 0 => 0
  | n + 1 => cntA A n + (match A.1 n with | none => 0 | some _ => 1)
theorem ok_cntC (Γ : Ev) {σ : St} {A : Land} (hR : RC σ A) {post : Int32 → St → Prop} {thr : String → St → Prop} (h : post (nI (cntA A 80)) σ) : ∃ f, wp_LR_view_43 Γ post thr f 0 0 σ := by
  have lp : ∀ (r i : Nat), i + r = 80 → wp_LR_view_43 Γ post thr (r + 1) (nI (cntA A i)) (nI i) σ := by
    intro r
    induction r with
    | zero => intro i hi; obtain rfl : i = 80 := by omega
              exact ⟨fun _ => h, fun z => absurd (by decide) z⟩
    | succ r ih =>
      intro i hi
      refine ⟨fun z => absurd z (nI_ge (a := i) (b := 80) (by omega) (by decide)), fun _ => ⟨vp_in_nI (by omega) (by decide), ?_⟩⟩
      rw [nI_clamp (by omega)]
      have z := hR.1 i (by omega)
      have nx := ih (i + 1) (by omega)
      have ec : cntA A (i + 1) = cntA A i + (match A.1 i with | none => 0 | some _ => 1) := rfl
      cases hA : A.1 i with
      | none =>
        rw [hA] at z ec
        rw [ec, ← nI_1 i] at nx
        exact ⟨fun _ => nx, fun w => absurd z w⟩
      | some x =>
        rw [hA] at z ec
        rw [ec, ← nI_1 i] at nx
        refine ⟨fun w => absurd (z.1.symm.trans w) (by decide), fun _ => ?_⟩
        show wp_LR_view_43 Γ post thr (r + 1) (nI (cntA A i) + 1) (nI i + 1) σ
        rw [nI_1 (cntA A i)]
        exact nx
  exact ⟨81, lp 80 0 (by omega)⟩
theorem ok_cntM (Γ : Ev) {σ : St} {A : Land} (hR : RM σ A) {post : Int32 → St → Prop} {thr : String → St → Prop} (h : post (nI (cntA A 80)) σ) : ∃ f, wp_M_view_51 Γ post thr f 0 0 σ := by
  have lp : ∀ (r i : Nat), i + r = 80 → wp_M_view_51 Γ post thr (r + 1) (nI (cntA A i)) (nI i) σ := by
    intro r
    induction r with
    | zero => intro i hi; obtain rfl : i = 80 := by omega
              exact ⟨fun _ => h, fun z => absurd (by decide) z⟩
    | succ r ih =>
      intro i hi
      refine ⟨fun z => absurd z (nI_ge (a := i) (b := 80) (by omega) (by decide)), fun _ => ⟨vp_in_nI (by omega) (by decide), ?_⟩⟩
      rw [nI_clamp (by omega)]
      have z := hR.1 i (by omega)
      have nx := ih (i + 1) (by omega)
      have ec : cntA A (i + 1) = cntA A i + (match A.1 i with | none => 0 | some _ => 1) := rfl
      cases hA : A.1 i with
      | none =>
        rw [hA] at z ec
        rw [ec, ← nI_1 i] at nx
        exact ⟨fun _ => nx, fun w => absurd z w⟩
      | some x =>
        rw [hA] at z ec
        rw [ec, ← nI_1 i] at nx
        refine ⟨fun w => absurd (z.1.symm.trans w) (by decide), fun _ => ?_⟩
        show wp_M_view_51 Γ post thr (r + 1) (nI (cntA A i) + 1) (nI i + 1) σ
        rw [nI_1 (cntA A i)]
        exact nx
  exact ⟨81, lp 80 0 (by omega)⟩
