/-! The class's checks and the reference's, by one condition each -/
section REQ
variable {Γ : Ev} {σ : St} {post : St → Prop} {postI : Int32 → St → Prop} {thr : String → St → Prop} {x : Int32}
theorem rq_fact {t : Int32} (hT : σ.I 0 1 = t) (h : (¬ x < 0 ∧ x ≤ t) → post σ) (hx : ¬ (¬ x < 0 ∧ x ≤ t) → thr "java/lang/IllegalArgumentException" σ) : wp_LR_requireFactDay Γ x σ post thr := by
  unfold wp_LR_requireFactDay
  rw [hT]
  exact ⟨fun z => hx (fun w => w.1 z), fun z => ⟨fun y => h ⟨z, y⟩, fun y => hx (fun w => y w.2)⟩⟩
theorem rq_person (h : (¬ x < 0 ∧ x < 8) → post σ) (hx : ¬ (¬ x < 0 ∧ x < 8) → thr "java/lang/IllegalArgumentException" σ) : wp_LR_requirePerson Γ x σ post thr :=
  ⟨fun z => hx (fun w => w.1 z), fun z => ⟨fun y => h ⟨z, y⟩, fun y => hx (fun w => y w.2)⟩⟩
theorem rq_units (h : (¬ x < 1 ∧ x ≤ 1000000000) → post σ) (hx : ¬ (¬ x < 1 ∧ x ≤ 1000000000) → thr "java/lang/IllegalArgumentException" σ) : wp_LR_requireUnits Γ x σ post thr :=
  ⟨fun z => hx (fun w => w.1 z), fun z => ⟨fun y => h ⟨z, y⟩, fun y => hx (fun w => y w.2)⟩⟩
theorem rq_free {t : Int32} (hN : σ.I 0 0 = t) (h : t < 40 → post σ) (hx : ¬ t < 40 → thr "java/lang/IllegalStateException" σ) : wp_LR_requireFreeNumber Γ σ post thr := by
  unfold wp_LR_requireFreeNumber
  rw [hN]
  exact ⟨h, hx⟩
theorem i32_lt8 : x < 8 ↔ x ≤ 7 := by
  rw [Int32.lt_iff_toInt_lt, Int32.le_iff_toInt_le]
  show _ < (8 : Int) ↔ _ ≤ (7 : Int)
  omega
theorem i32_lt80 : x < 80 ↔ x ≤ 79 := by
  rw [Int32.lt_iff_toInt_lt, Int32.le_iff_toInt_le]
  show _ < (80 : Int) ↔ _ ≤ (79 : Int)
  omega
theorem no_person (h : (¬ x < 0 ∧ x < 8) → postI 0 σ) (hx : ¬ (¬ x < 0 ∧ x < 8) → postI 1 σ) : wp_M_noPerson Γ x σ postI thr :=
  ⟨fun z => hx (fun w => w.1 z), fun z => ⟨fun y => h ⟨z, i32_lt8.mpr y⟩, fun y => hx (fun w => y (i32_lt8.mp w.2))⟩⟩
theorem no_parcel (h : (¬ x < 0 ∧ x < 80) → postI 0 σ) (hx : ¬ (¬ x < 0 ∧ x < 80) → postI 1 σ) : wp_M_noParcel Γ x σ postI thr :=
  ⟨fun z => hx (fun w => w.1 z), fun z => ⟨fun y => h ⟨z, i32_lt80.mpr y⟩, fun y => hx (fun w => y (i32_lt80.mp w.2))⟩⟩
end REQ
