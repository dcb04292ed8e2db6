/-! Queries -/
abbrev pcOK (x : Int32) : Prop := ¬ x < 0 ∧ x < 80
theorem pc_nat {x : Int32} (h : pcOK x) : ∃ p, x = nI p ∧ p < 80 := by
  obtain ⟨p, h1, rfl⟩ := nI_of h.1
  exact ⟨p, rfl, (nI_ltI (b := 80) h1 (by decide)).mp h.2⟩
theorem rq_parcel {Γ : Ev} {σ : St} {post : St → Prop} {thr : String → St → Prop} {x : Int32} (h : pcOK x → post σ) (hx : ¬ pcOK x → thr "java/lang/IllegalArgumentException" σ) : wp_LR_requireParcel Γ x σ post thr :=
  ⟨fun z => hx (fun w => w.1 z), fun z => ⟨fun y => h ⟨z, y⟩, fun y => hx (fun w => y w.2)⟩⟩
def areaA (A : Land) (p : Nat) : Int64 := match A.1 p with
  | none => 0
  | some x => x.ar
def cautA (A : Land) (p : Nat) : Int32 := match A.1 p with
  | none => 0
  | some x => x.wn
theorem ok_areaC (Γ : Ev) {σ : St} {A : Land} {x1 : Int32} (hR : RC σ A) {post : Int64 → St → Prop} {thr : String → St → Prop} (h : ∀ p, x1 = nI p → p < 80 → post (areaA A p) σ) (hx : ¬ pcOK x1 → thr "java/lang/IllegalArgumentException" σ) : wp_LR_area Γ x1 σ post thr := by
  refine rq_parcel (fun hp => ?_) hx
  obtain ⟨p, rfl, hp8⟩ := pc_nat hp
  have hp := hp8
  refine ⟨vp_in_nI hp (by decide), ?_⟩
  rw [nI_clamp (by omega)]
  have z := hR.1 p hp
  have hh := h p rfl hp
  unfold areaA at hh
  cases hA : A.1 p with
  | none => rw [hA] at z hh; exact ⟨fun _ => hh, fun w => absurd z w⟩
  | some x => rw [hA] at z hh; exact ⟨fun w => absurd (z.1.symm.trans w) (by decide), fun _ => by rw [z.2.1]; exact hh⟩
theorem ok_cautC (Γ : Ev) {σ : St} {A : Land} {x1 : Int32} (hR : RC σ A) {post : Int32 → St → Prop} {thr : String → St → Prop} (h : ∀ p, x1 = nI p → p < 80 → post (cautA A p) σ) (hx : ¬ pcOK x1 → thr "java/lang/IllegalArgumentException" σ) : wp_LR_cautions Γ x1 σ post thr := by
  refine rq_parcel (fun hp => ?_) hx
  obtain ⟨p, rfl, hp8⟩ := pc_nat hp
  have hp := hp8
  refine ⟨vp_in_nI hp (by decide), ?_⟩
  rw [nI_clamp (by omega)]
  have z := hR.1 p hp
  have hh := h p rfl hp
  unfold cautA at hh
  cases hA : A.1 p with
  | none => rw [hA] at z hh; exact ⟨fun _ => hh, fun w => absurd z w⟩
  | some x => rw [hA] at z hh; exact ⟨fun w => absurd (z.1.symm.trans w) (by decide), fun _ => by rw [z.2.2.2.2.2]; exact hh⟩
theorem ok_areaM (Γ : Ev) {σ : St} {A : Land} {x1 : Int32} (hR : RM σ A) {post : Int64 → St → Prop} {thr : String → St → Prop} (h : ∀ p, x1 = nI p → p < 80 → post (areaA A p) (St.sI σ 20 0 0)) (hx : ¬ pcOK x1 → post 0 (St.sI σ 20 0 1)) : wp_M_area Γ x1 σ post thr := by
  refine no_parcel (fun hp => ⟨fun _ => ?_, fun w => absurd rfl w⟩) (fun hp => ⟨fun w => absurd w (by decide), fun _ => ⟨fun _ => hx hp, fun w => absurd (by rw [I_aI_s, pk_us]; decide) w⟩⟩)
  obtain ⟨p, rfl, hp8⟩ := pc_nat hp
  have hp := hp8
  have iv : vp_in (nI p) 80 := vp_in_nI hp (by decide)
  refine ⟨fun w => absurd w (by rw [I_aI_s, pk_us]; decide), fun _ => ⟨iv, ?_⟩⟩
  rw [nI_clamp (by omega), I_aI_n (by omega), L_aI]
  have z := hR.1 p hp
  have hh := h p rfl hp
  unfold areaA at hh
  cases hA : A.1 p with
  | none => rw [hA] at z hh; exact ⟨fun w => absurd z w, fun _ => hh⟩
  | some x => rw [hA] at z hh; exact ⟨fun _ => ⟨iv, by rw [z.2.1]; exact hh⟩, fun w => absurd (z.1.symm.trans w) (by decide)⟩
theorem ok_cautM (Γ : Ev) {σ : St} {A : Land} {x1 : Int32} (hR : RM σ A) {post : Int32 → St → Prop} {thr : String → St → Prop} (h : ∀ p, x1 = nI p → p < 80 → post (cautA A p) (St.sI σ 20 0 0)) (hx : ¬ pcOK x1 → post 0 (St.sI σ 20 0 1)) : wp_M_cautions Γ x1 σ post thr := by
  refine no_parcel (fun hp => ⟨fun _ => ?_, fun w => absurd rfl w⟩) (fun hp => ⟨fun w => absurd w (by decide), fun _ => ⟨fun _ => hx hp, fun w => absurd (by rw [I_aI_s, pk_us]; decide) w⟩⟩)
  obtain ⟨p, rfl, hp8⟩ := pc_nat hp
  have hp := hp8
  have iv : vp_in (nI p) 80 := vp_in_nI hp (by decide)
  refine ⟨fun w => absurd w (by rw [I_aI_s, pk_us]; decide), fun _ => ⟨iv, ?_⟩⟩
  rw [nI_clamp (by omega), I_aI_n (by omega), I_aI_n (by omega)]
  have z := hR.1 p hp
  have hh := h p rfl hp
  unfold cautA at hh
  cases hA : A.1 p with
  | none => rw [hA] at z hh; exact ⟨fun w => absurd z w, fun _ => hh⟩
  | some x => rw [hA] at z hh; exact ⟨fun _ => ⟨iv, by rw [z.2.2.2.2.2]; exact hh⟩, fun w => absurd (z.1.symm.trans w) (by decide)⟩
