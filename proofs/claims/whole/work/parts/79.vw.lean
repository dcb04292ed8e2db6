/-! view on both sides -/
def vwOK (t x1 x2 : Int32) : Prop := ¬ x1 < 0 ∧ ¬ t < x1 ∧ ¬ x2 < 0 ∧ x2 ≤ 60
theorem vw_nat {T : Nat} {x1 x2 : Int32} (hT : T ≤ 60) (h : vwOK (nI T) x1 x2) : ∃ rc fc, x1 = nI rc ∧ x2 = nI fc ∧ rc ≤ 60 ∧ fc ≤ 60 := by
  obtain ⟨h1, h2, h3, h4⟩ := h
  obtain ⟨rc, r1, rfl⟩ := nI_of h1
  obtain ⟨fc, f1, rfl⟩ := nI_of h3
  refine ⟨rc, fc, rfl, rfl, ?_, (nI_leI (b := 60) f1 (by decide)).mp h4⟩
  by_cases w : T < rc
  · exact absurd (nI_lt w r1) h2
  · omega
theorem ok_viewC (Γ : Ev) {σ : St} {ds : Nat → Dd} {N T : Nat} {x1 x2 : Int32} (hd : dsOK ds N T) (hi : IC0 Γ σ ds N T) {post : Int32 → St → Prop} {thr : String → St → Prop} (h : ∀ rc fc, x1 = nI rc → x2 = nI fc → rc ≤ 60 → fc ≤ 60 → vwOK (nI T) x1 x2 → ∀ σ', IC Γ σ' ds N T (viewA ds rc fc (ordL ds N 61)) → sameM σ σ' → σ'.L 6 = σ.L 6 → post (nI (cntA (viewA ds rc fc (ordL ds N 61)).1 80)) σ') (hx : ¬ vwOK (nI T) x1 x2 → thr "java/lang/IllegalArgumentException" σ) : wp_LR_view Γ x1 x2 σ post thr := by
  unfold wp_LR_view
  rw [hi.2.2.1]
  refine ⟨fun z => hx (fun w => w.1 z), fun z1 => ⟨fun z => hx (fun w => w.2.1 z), fun z2 => ⟨fun z => hx (fun w => w.2.2.1 z), fun z3 => ⟨fun z4 => ?_, fun z => hx (fun w => z w.2.2.2)⟩⟩⟩⟩
  have hv : vwOK (nI T) x1 x2 := ⟨z1, z2, z3, z4⟩
  obtain ⟨rc, fc, rfl, rfl, hr, hf⟩ := vw_nat hd.2.1 hv
  exact ic_look Γ hd hi hr hf (fun σ' a k => ok_cntC Γ a.2.2.2.2.2.2.1 (h rc fc rfl rfl hr hf hv σ' a k.M (k.2.1 6 (by omega))))
theorem ok_viewM (Γ : Ev) {σ : St} {ds : Nat → Dd} {N T : Nat} {x1 x2 : Int32} (hd : dsOK ds N T) (hi : IM0 σ ds N T) {post : Int32 → St → Prop} {thr : String → St → Prop} (h : ∀ rc fc, x1 = nI rc → x2 = nI fc → rc ≤ 60 → fc ≤ 60 → vwOK (nI T) x1 x2 → ∀ σ', IM σ' ds N T (viewA ds rc fc (ordL ds N 61)) → sameC σ σ' → σ'.L 6 = σ.L 6 → σ'.I 20 0 = 0 → post (nI (cntA (viewA ds rc fc (ordL ds N 61)).1 80)) σ') (hx : ¬ vwOK (nI T) x1 x2 → post 0 (St.sI σ 20 0 1)) : wp_M_view Γ x1 x2 σ post thr := by
  have no : ¬ vwOK (nI T) x1 x2 → wp_M_view_23 Γ post thr x1 x2 σ := fun w => ⟨fun y => absurd y (by rw [I_aI_s, pk_us]; decide), fun _ => hx w⟩
  unfold wp_M_view
  rw [hi.1]
  refine ⟨fun z => no (fun w => w.1 z), fun z1 => ⟨fun z => no (fun w => w.2.1 z), fun z2 => ⟨fun z => no (fun w => w.2.2.1 z), fun z3 => ⟨fun z4 => ?_, fun z => no (fun w => z w.2.2.2)⟩⟩⟩⟩
  have hv : vwOK (nI T) x1 x2 := ⟨z1, z2, z3, z4⟩
  obtain ⟨rc, fc, rfl, rfl, hr, hf⟩ := vw_nat hd.2.1 hv
  refine ⟨fun _ => ?_, fun y => absurd (by rw [I_aI_s, pk_us]; decide) y⟩
  refine im_look Γ hd ⟨?_, ?_, fun n hn => (hi.2.2 n hn).keep'⟩ hr hf (fun σ' a k => ok_cntM Γ a.2.2.2.1 (h rc fc rfl rfl hr hf hv σ' a (sameC_20.tr k.C) (k.2.1 6 (by omega)) ?_))
  · rw [I_aI_s, pk_un (by decide)]; exact hi.1
  · rw [I_aI_s, pk_un (by decide)]; exact hi.2.1
  · rw [k.1 20 (by omega), I_aI_s, pk_us]
