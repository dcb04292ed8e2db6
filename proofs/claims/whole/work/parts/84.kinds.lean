/-! The filing calls: what each asks of its arguments, and its deed -/
theorem i32_nlt {x y : Int32} (h : ¬ y < x) : x ≤ y := by
  rw [Int32.lt_iff_toInt_lt] at h
  rw [Int32.le_iff_toInt_le]
  omega
theorem i32_lt {x y : Int32} (h : x ≤ y) (z : y < x) : False := by
  rw [Int32.lt_iff_toInt_lt] at z
  rw [Int32.le_iff_toInt_le] at h
  omega
theorem i64_nlt {x y : Int64} (h : ¬ y < x) : x ≤ y := by
  rw [Int64.lt_iff_toInt_lt] at h
  rw [Int64.le_iff_toInt_le]
  omega
theorem i64_lt {x y : Int64} (h : x ≤ y) (z : y < x) : False := by
  rw [Int64.lt_iff_toInt_lt] at z
  rw [Int64.le_iff_toInt_le] at h
  omega
def ag_found (x2 x3 : Int32) : Prop := unOK x2 ∧ psOK x3
def de_found (T : Nat) (x1 x2 x3 : Int32) : Dd := (0, (T, (x1).toNatClampNeg), ((x2).toNatClampNeg, (x3).toNatClampNeg, 0), 0, (0, 0))
theorem tk_found {T : Nat} (hT : T ≤ 60) {x1 x2 x3 : Int32} (c : ag_found x2 x3) (hy : dyOK (nI T) x1) : dOK (de_found T x1 x2 x3) ∧ Dd.rec (de_found T x1 x2 x3) = T ∧ x1 = nI (Dd.fact (de_found T x1 x2 x3)) ∧ Dd.fact (de_found T x1 x2 x3) ≤ T ∧ (0 : Int32) = nI (Dd.k (de_found T x1 x2 x3)) ∧ x2 = nI (Dd.a (de_found T x1 x2 x3)) ∧ x3 = nI (if Dd.k (de_found T x1 x2 x3) = 1 then 8 * Dd.b (de_found T x1 x2 x3) + Dd.c (de_found T x1 x2 x3) else Dd.b (de_found T x1 x2 x3)) ∧ (Dd.k (de_found T x1 x2 x3) = 1 → (0 : Int32) = nI (Dd.f (de_found T x1 x2 x3)).1 ∧ (0 : Int32) = nI (Dd.f (de_found T x1 x2 x3)).2) ∧ (Dd.k (de_found T x1 x2 x3) = 2 → (0 : Int32) = nI (Dd.c (de_found T x1 x2 x3))) ∧ (Dd.k (de_found T x1 x2 x3) = 3 → (0 : Int32) = nI (Dd.c (de_found T x1 x2 x3)) ∧ (0 : Int32) = Dd.e (de_found T x1 x2 x3)) := by
  obtain ⟨a2, a3⟩ := c
  exact ⟨⟨(xN_un a2).2.1, (xN_un a2).2.2, (xN_ps a3).2⟩, rfl, (xN_dy hT hy).1, (xN_dy hT hy).2, rfl, (xN_un a2).1, (xN_ps a3).1, (fun z => absurd (show (0 : Nat) = 1 from z) (by decide)), (fun z => absurd (show (0 : Nat) = 2 from z) (by decide)), (fun z => absurd (show (0 : Nat) = 3 from z) (by decide))⟩
theorem fC_found (Γ : Ev) {σ : St} {ds : Nat → Dd} {N T : Nat} {V : Vw} {x1 x2 x3 : Int32} (hd : dsOK ds N T) (hi : IC Γ σ ds N T V) : spC σ ds N T (dyOK (nI T) x1 ∧ ag_found x2 x3) (de_found T x1 x2 x3) (wp_LR_found Γ x1 x2 x3 σ) := by
  intro post thr h h1 h2
  refine rq_fact hi.2.2.1 (fun a1 => rq_person (fun a3 => rq_units (fun a2 => rq_free hi.2.1 (fun a0 qa => ?_) (fun a0 => h2 ⟨a1, a2, a3⟩ (n40 hd.1 a0))) (fun y => h1 (fun w => y w.2.1))) (fun y => h1 (fun w => y w.2.2))) (fun y => h1 (fun w => y w.1))
  have hN := n40' hd.1 a0
  obtain ⟨o1, o2, o3, o4, -⟩ := tk_found hd.2.1 ⟨a2, a3⟩ a1
  have en := hi.1
  rw [en]
  refine ⟨Ev.deed_nd en, Ev.deed_K en, Ev.deed_nd en, by rw [Ev.deed_K en]; decide, ?_⟩
  have of := (((offN_deed (σ := σ) (N := N)).sI (k := 9) (v := -1) (by decide)).sI (k := 10) (v := x2) (by decide)).sI (k := 11) (v := x3) (by decide)
  have key := ok_newC Γ (d := (de_found T x1 x2 x3)) (ci := 2) (qa := qa) (post := fun v2 σ2 => post v2 (Γ.deed 2 qa) σ2) (thr := fun _ _ => False) hd hi hN rfl o1 o2 o4 of.1 of.2.1 of.2.2 (by simp (disch := decide) only [I_aL, L_aL_s, I_aI_s, I_aI_n, pk_us, pk_uLs]; exact (xN_un a2).1) (by simp (disch := decide) only [I_aL, L_aL_s, I_aI_s, I_aI_n, pk_us, pk_uLs]; exact (xN_ps a3).1) (fun z => absurd (show (1 : Nat) ≤ 0 from z) (by decide)) (fun z => absurd (show (0 : Nat) = 3 from z) (by decide)) (fun z => absurd (show (0 : Nat) = 1 from z) (by decide)) (fun σ' a s l => h ⟨a1, a2, a3⟩ hN _ σ' a s l)
  rw [← o3] at key
  exact key
theorem fM_found (Γ : Ev) {σ : St} {ds : Nat → Dd} {N T : Nat} {V : Vw} {x1 x2 x3 : Int32} (hd : dsOK ds N T) (hm : IM σ ds N T V) : spM σ ds N T (dyOK (nI T) x1 ∧ ag_found x2 x3) (de_found T x1 x2 x3) (wp_M_found Γ x1 x2 x3 σ) := by
  intro post thr h h1 h2
  have bad : ¬ ag_found x2 x3 → wp_M_file Γ 1 x1 (0 : Int32) x2 (x3) ((0 : Int32)) ((0 : Int32)) σ post thr := fun w => ok_newM Γ (d := (de_found T x1 x2 x3)) hd hm (fun e => absurd e (by decide)) (fun e => absurd e (by decide)) (fun _ => h1 (fun c => w c.2)) (fun e => absurd e (by decide))
  have good : ag_found x2 x3 → wp_M_file Γ 0 x1 (0 : Int32) x2 (x3) ((0 : Int32)) ((0 : Int32)) σ post thr := fun w => ok_newM Γ (d := (de_found T x1 x2 x3)) hd hm (fun _ y => tk_found hd.2.1 w y) (fun _ y hN => h ⟨y, w⟩ hN) (fun u => h1 (fun c => u ⟨rfl, c.1⟩)) (fun _ y e => h2 ⟨y, w⟩ e)
  exact no_amount (fun a2 => ⟨fun z => absurd rfl z, fun _ => no_person (fun a3 => ⟨fun _ => good ⟨a2, a3⟩, fun z => absurd rfl z⟩) (fun y => ⟨fun z => absurd z (by decide), fun _ => bad (fun w => y w.2)⟩)⟩) (fun y => ⟨fun _ => bad (fun w => y w.1), fun z => absurd z (by decide)⟩)
theorem st_found {Γ : Ev} {σ : St} {x1 x2 x3 : Int32} {Q : Int32 → Ev → St → Prop} {Z : Ev → St → Prop} (I : Inv Γ σ) (hZ : ∀ Γ' σ', Inv Γ' σ' → Z Γ' σ') (hQ : ∀ v Γ' σ', wp_M_found Γ' x1 x2 x3 σ' (fun v12 σ13 => wp_M_thrown Γ' σ13 (fun v14 σ15 => cmpL v v14 (St.L σ15 6 (0 : Int32).toNatClampNeg) (Int32.toInt64 v12) (Z Γ' σ15)) (fun _ _ => False)) (fun _ _ => False) → Q v Γ' σ') : wp_W_found Γ x1 x2 x3 σ Q := by
  obtain ⟨ds, N, T, V, hd, hi, hm, hl⟩ := I
  exact st_file (W := wp_LR_found Γ x1 x2 x3 σ) (WM := fun Γ' σ' => wp_M_found Γ' x1 x2 x3 σ') hd hi hm hl (fun c => have t := tk_found hd.2.1 c.2 c.1; ⟨t.1, t.2.1, t.2.2.2.1⟩) (fC_found Γ hd hi) (fun Γ' σ' m => fM_found Γ' hd m) hQ hZ
def ag_sell (x2 x3 x4 : Int32) (x5 : Int64) : Prop := pcOK x2 ∧ psOK x3 ∧ psOK x4 ∧ ¬ x3 = x4 ∧ frC x5
def de_sell (T : Nat) (x1 x2 x3 x4 : Int32) (x5 : Int64) : Dd := (1, (T, (x1).toNatClampNeg), ((x2).toNatClampNeg, (x3).toNatClampNeg, (x4).toNatClampNeg), 0, frN x5)
theorem tk_sell {T : Nat} (hT : T ≤ 60) {x1 x2 x3 x4 : Int32} {x5 : Int64} (c : ag_sell x2 x3 x4 x5) (hy : dyOK (nI T) x1) : dOK (de_sell T x1 x2 x3 x4 x5) ∧ Dd.rec (de_sell T x1 x2 x3 x4 x5) = T ∧ x1 = nI (Dd.fact (de_sell T x1 x2 x3 x4 x5)) ∧ Dd.fact (de_sell T x1 x2 x3 x4 x5) ≤ T ∧ (1 : Int32) = nI (Dd.k (de_sell T x1 x2 x3 x4 x5)) ∧ x2 = nI (Dd.a (de_sell T x1 x2 x3 x4 x5)) ∧ (8 : Int32) * x3 + x4 = nI (if Dd.k (de_sell T x1 x2 x3 x4 x5) = 1 then 8 * Dd.b (de_sell T x1 x2 x3 x4 x5) + Dd.c (de_sell T x1 x2 x3 x4 x5) else Dd.b (de_sell T x1 x2 x3 x4 x5)) ∧ (Dd.k (de_sell T x1 x2 x3 x4 x5) = 1 → (top32 x5).toInt32 = nI (Dd.f (de_sell T x1 x2 x3 x4 x5)).1 ∧ (low32 x5).toInt32 = nI (Dd.f (de_sell T x1 x2 x3 x4 x5)).2) ∧ (Dd.k (de_sell T x1 x2 x3 x4 x5) = 2 → (top32 x5).toInt32 = nI (Dd.c (de_sell T x1 x2 x3 x4 x5))) ∧ (Dd.k (de_sell T x1 x2 x3 x4 x5) = 3 → (top32 x5).toInt32 = nI (Dd.c (de_sell T x1 x2 x3 x4 x5)) ∧ (low32 x5).toInt32 = Dd.e (de_sell T x1 x2 x3 x4 x5)) := by
  obtain ⟨a2, a3, a4, a5, a6⟩ := c
  exact ⟨⟨(xN_pc a2).2, (xN_ps a3).2, (xN_ps a4).2, xN_ne a3.1 a4.1 a5, (fr_nat a6).1⟩, rfl, (xN_dy hT hy).1, (xN_dy hT hy).2, rfl, (xN_pc a2).1, (by have e := i8 (p := (x3).toNatClampNeg) (s := (x4).toNatClampNeg); rw [← (xN_ps a3).1, ← (xN_ps a4).1] at e; exact e), (fun _ => ⟨(fr_nat a6).2.2.1, (fr_nat a6).2.2.2⟩), (fun z => absurd (show (1 : Nat) = 2 from z) (by decide)), (fun z => absurd (show (1 : Nat) = 3 from z) (by decide))⟩
theorem fC_sell (Γ : Ev) {σ : St} {ds : Nat → Dd} {N T : Nat} {V : Vw} {x1 x2 x3 x4 : Int32} {x5 : Int64} (hd : dsOK ds N T) (hi : IC Γ σ ds N T V) : spC σ ds N T (dyOK (nI T) x1 ∧ ag_sell x2 x3 x4 x5) (de_sell T x1 x2 x3 x4 x5) (wp_LR_sell Γ x1 x2 x3 x4 x5 σ) := by
  intro post thr h h1 h2
  refine rq_fact hi.2.2.1 (fun a1 => rq_parcel (fun a2 => rq_person (fun a3 => rq_person (fun a4 => rq_diff (fun a5 => rq_frac (fun a6 => rq_free hi.2.1 (fun a0 qa => ?_) (fun a0 => h2 ⟨a1, a2, a3, a4, a5, a6⟩ (n40 hd.1 a0))) (fun y => h1 (fun w => y w.2.2.2.2.2))) (fun y => h1 (fun w => y w.2.2.2.2.1))) (fun y => h1 (fun w => y w.2.2.2.1))) (fun y => h1 (fun w => y w.2.2.1))) (fun y => h1 (fun w => y w.2.1))) (fun y => h1 (fun w => y w.1))
  have hN := n40' hd.1 a0
  obtain ⟨o1, o2, o3, o4, -⟩ := tk_sell hd.2.1 ⟨a2, a3, a4, a5, a6⟩ a1
  have en := hi.1
  rw [en]
  refine ⟨Ev.deed_nd en, Ev.deed_K en, Ev.deed_nd en, by rw [Ev.deed_K en]; decide, ?_⟩
  have of := (((((offN_deed (σ := σ) (N := N)).sI (k := 9) (v := -1) (by decide)).sI (k := 10) (v := x2) (by decide)).sI (k := 11) (v := x3) (by decide)).sI (k := 12) (v := x4) (by decide)).sL (v := x5)
  have key := ok_newC Γ (d := (de_sell T x1 x2 x3 x4 x5)) (ci := 3) (qa := qa) (post := fun v2 σ2 => post v2 (Γ.deed 3 qa) σ2) (thr := fun _ _ => False) hd hi hN rfl o1 o2 o4 of.1 of.2.1 of.2.2 (by simp (disch := decide) only [I_aL, L_aL_s, I_aI_s, I_aI_n, pk_us, pk_uLs]; exact (xN_pc a2).1) (by simp (disch := decide) only [I_aL, L_aL_s, I_aI_s, I_aI_n, pk_us, pk_uLs]; exact (xN_ps a3).1) (fun _ _ => by simp (disch := decide) only [I_aL, L_aL_s, I_aI_s, I_aI_n, pk_us, pk_uLs]; exact (xN_ps a4).1) (fun z => absurd (show (1 : Nat) = 3 from z) (by decide)) (fun _ => by simp (disch := decide) only [I_aL, L_aL_s, I_aI_s, I_aI_n, pk_us, pk_uLs]; exact (fr_nat a6).2.1) (fun σ' a s l => h ⟨a1, a2, a3, a4, a5, a6⟩ hN _ σ' a s l)
  rw [← o3] at key
  exact key
theorem fM_sell (Γ : Ev) {σ : St} {ds : Nat → Dd} {N T : Nat} {V : Vw} {x1 x2 x3 x4 : Int32} {x5 : Int64} (hd : dsOK ds N T) (hm : IM σ ds N T V) : spM σ ds N T (dyOK (nI T) x1 ∧ ag_sell x2 x3 x4 x5) (de_sell T x1 x2 x3 x4 x5) (wp_M_sell Γ x1 x2 x3 x4 x5 σ) := by
  intro post thr h h1 h2
  have bad : ¬ ag_sell x2 x3 x4 x5 → wp_M_file Γ 1 x1 (1 : Int32) x2 ((8 : Int32) * x3 + x4) ((top32 x5).toInt32) ((low32 x5).toInt32) σ post thr := fun w => ok_newM Γ (d := (de_sell T x1 x2 x3 x4 x5)) hd hm (fun e => absurd e (by decide)) (fun e => absurd e (by decide)) (fun _ => h1 (fun c => w c.2)) (fun e => absurd e (by decide))
  have good : ag_sell x2 x3 x4 x5 → wp_M_file Γ 0 x1 (1 : Int32) x2 ((8 : Int32) * x3 + x4) ((top32 x5).toInt32) ((low32 x5).toInt32) σ post thr := fun w => ok_newM Γ (d := (de_sell T x1 x2 x3 x4 x5)) hd hm (fun _ y => tk_sell hd.2.1 w y) (fun _ y hN => h ⟨y, w⟩ hN) (fun u => h1 (fun c => u ⟨rfl, c.1⟩)) (fun _ y e => h2 ⟨y, w⟩ e)
  exact no_parcel (fun a2 => ⟨fun z => absurd rfl z, fun _ => no_person (fun a3 => ⟨fun z => absurd rfl z, fun _ => no_person (fun a4 => ⟨fun z => absurd rfl z, fun _ => ⟨fun z => bad (fun w => w.2.2.2.1 z), fun z0 => ⟨fun z => bad (fun w => w.2.2.2.2.1 ((lg_cmp_lt _ _).mp z)), fun z1 => ⟨fun z => bad (fun w => i64_lt w.2.2.2.2.2.1 ((lg_cmp_gt _ _).mp z)), fun z2 => ⟨fun z => bad (fun w => w.2.2.2.2.2.2.1 ((lg_cmp_lt _ _).mp z)), fun z3 => ⟨fun z4 => good ⟨a2, a3, a4, z0, ⟨fun w => z1 ((lg_cmp_lt _ _).mpr w), i64_nlt (fun w => z2 ((lg_cmp_gt _ _).mpr w)), fun w => z3 ((lg_cmp_lt _ _).mpr w), (lg_cmp_le _ _).mp z4⟩⟩, fun z => bad (fun w => z ((lg_cmp_le _ _).mpr w.2.2.2.2.2.2.2))⟩⟩⟩⟩⟩⟩) (fun y => ⟨fun _ => bad (fun w => y w.2.2.1), fun z => absurd z (by decide)⟩)⟩) (fun y => ⟨fun _ => bad (fun w => y w.2.1), fun z => absurd z (by decide)⟩)⟩) (fun y => ⟨fun _ => bad (fun w => y w.1), fun z => absurd z (by decide)⟩)
theorem st_sell {Γ : Ev} {σ : St} {x1 x2 x3 x4 : Int32} {x5 : Int64} {Q : Int32 → Ev → St → Prop} {Z : Ev → St → Prop} (I : Inv Γ σ) (hZ : ∀ Γ' σ', Inv Γ' σ' → Z Γ' σ') (hQ : ∀ v Γ' σ', wp_M_sell Γ' x1 x2 x3 x4 x5 σ' (fun v12 σ13 => wp_M_thrown Γ' σ13 (fun v14 σ15 => cmpL v v14 (St.L σ15 6 (0 : Int32).toNatClampNeg) (Int32.toInt64 v12) (Z Γ' σ15)) (fun _ _ => False)) (fun _ _ => False) → Q v Γ' σ') : wp_W_sell Γ x1 x2 x3 x4 x5 σ Q := by
  obtain ⟨ds, N, T, V, hd, hi, hm, hl⟩ := I
  exact st_file (W := wp_LR_sell Γ x1 x2 x3 x4 x5 σ) (WM := fun Γ' σ' => wp_M_sell Γ' x1 x2 x3 x4 x5 σ') hd hi hm hl (fun c => have t := tk_sell hd.2.1 c.2 c.1; ⟨t.1, t.2.1, t.2.2.2.1⟩) (fC_sell Γ hd hi) (fun Γ' σ' m => fM_sell Γ' hd m) hQ hZ
def ag_pledge (x2 x3 x4 : Int32) : Prop := pcOK x2 ∧ psOK x3 ∧ unOK x4
def de_pledge (T : Nat) (x1 x2 x3 x4 : Int32) : Dd := (2, (T, (x1).toNatClampNeg), ((x2).toNatClampNeg, (x3).toNatClampNeg, (x4).toNatClampNeg), 0, (0, 0))
theorem tk_pledge {T : Nat} (hT : T ≤ 60) {x1 x2 x3 x4 : Int32} (c : ag_pledge x2 x3 x4) (hy : dyOK (nI T) x1) : dOK (de_pledge T x1 x2 x3 x4) ∧ Dd.rec (de_pledge T x1 x2 x3 x4) = T ∧ x1 = nI (Dd.fact (de_pledge T x1 x2 x3 x4)) ∧ Dd.fact (de_pledge T x1 x2 x3 x4) ≤ T ∧ (2 : Int32) = nI (Dd.k (de_pledge T x1 x2 x3 x4)) ∧ x2 = nI (Dd.a (de_pledge T x1 x2 x3 x4)) ∧ x3 = nI (if Dd.k (de_pledge T x1 x2 x3 x4) = 1 then 8 * Dd.b (de_pledge T x1 x2 x3 x4) + Dd.c (de_pledge T x1 x2 x3 x4) else Dd.b (de_pledge T x1 x2 x3 x4)) ∧ (Dd.k (de_pledge T x1 x2 x3 x4) = 1 → x4 = nI (Dd.f (de_pledge T x1 x2 x3 x4)).1 ∧ (0 : Int32) = nI (Dd.f (de_pledge T x1 x2 x3 x4)).2) ∧ (Dd.k (de_pledge T x1 x2 x3 x4) = 2 → x4 = nI (Dd.c (de_pledge T x1 x2 x3 x4))) ∧ (Dd.k (de_pledge T x1 x2 x3 x4) = 3 → x4 = nI (Dd.c (de_pledge T x1 x2 x3 x4)) ∧ (0 : Int32) = Dd.e (de_pledge T x1 x2 x3 x4)) := by
  obtain ⟨a2, a3, a4⟩ := c
  exact ⟨⟨(xN_pc a2).2, (xN_ps a3).2, (xN_un a4).2.1, (xN_un a4).2.2⟩, rfl, (xN_dy hT hy).1, (xN_dy hT hy).2, rfl, (xN_pc a2).1, (xN_ps a3).1, (fun z => absurd (show (2 : Nat) = 1 from z) (by decide)), (fun _ => (xN_un a4).1), (fun z => absurd (show (2 : Nat) = 3 from z) (by decide))⟩
theorem fC_pledge (Γ : Ev) {σ : St} {ds : Nat → Dd} {N T : Nat} {V : Vw} {x1 x2 x3 x4 : Int32} (hd : dsOK ds N T) (hi : IC Γ σ ds N T V) : spC σ ds N T (dyOK (nI T) x1 ∧ ag_pledge x2 x3 x4) (de_pledge T x1 x2 x3 x4) (wp_LR_pledge Γ x1 x2 x3 x4 σ) := by
  intro post thr h h1 h2
  refine rq_fact hi.2.2.1 (fun a1 => rq_parcel (fun a2 => rq_person (fun a3 => rq_units (fun a4 => rq_free hi.2.1 (fun a0 qa => ?_) (fun a0 => h2 ⟨a1, a2, a3, a4⟩ (n40 hd.1 a0))) (fun y => h1 (fun w => y w.2.2.2))) (fun y => h1 (fun w => y w.2.2.1))) (fun y => h1 (fun w => y w.2.1))) (fun y => h1 (fun w => y w.1))
  have hN := n40' hd.1 a0
  obtain ⟨o1, o2, o3, o4, -⟩ := tk_pledge hd.2.1 ⟨a2, a3, a4⟩ a1
  have en := hi.1
  rw [en]
  refine ⟨Ev.deed_nd en, Ev.deed_K en, Ev.deed_nd en, by rw [Ev.deed_K en]; decide, ?_⟩
  have of := ((((offN_deed (σ := σ) (N := N)).sI (k := 9) (v := -1) (by decide)).sI (k := 10) (v := x2) (by decide)).sI (k := 11) (v := x3) (by decide)).sI (k := 12) (v := x4) (by decide)
  have key := ok_newC Γ (d := (de_pledge T x1 x2 x3 x4)) (ci := 4) (qa := qa) (post := fun v2 σ2 => post v2 (Γ.deed 4 qa) σ2) (thr := fun _ _ => False) hd hi hN rfl o1 o2 o4 of.1 of.2.1 of.2.2 (by simp (disch := decide) only [I_aL, L_aL_s, I_aI_s, I_aI_n, pk_us, pk_uLs]; exact (xN_pc a2).1) (by simp (disch := decide) only [I_aL, L_aL_s, I_aI_s, I_aI_n, pk_us, pk_uLs]; exact (xN_ps a3).1) (fun _ _ => by simp (disch := decide) only [I_aL, L_aL_s, I_aI_s, I_aI_n, pk_us, pk_uLs]; exact (xN_un a4).1) (fun z => absurd (show (2 : Nat) = 3 from z) (by decide)) (fun z => absurd (show (2 : Nat) = 1 from z) (by decide)) (fun σ' a s l => h ⟨a1, a2, a3, a4⟩ hN _ σ' a s l)
  rw [← o3] at key
  exact key
theorem fM_pledge (Γ : Ev) {σ : St} {ds : Nat → Dd} {N T : Nat} {V : Vw} {x1 x2 x3 x4 : Int32} (hd : dsOK ds N T) (hm : IM σ ds N T V) : spM σ ds N T (dyOK (nI T) x1 ∧ ag_pledge x2 x3 x4) (de_pledge T x1 x2 x3 x4) (wp_M_pledge Γ x1 x2 x3 x4 σ) := by
  intro post thr h h1 h2
  have bad : ¬ ag_pledge x2 x3 x4 → wp_M_file Γ 1 x1 (2 : Int32) x2 (x3) (x4) ((0 : Int32)) σ post thr := fun w => ok_newM Γ (d := (de_pledge T x1 x2 x3 x4)) hd hm (fun e => absurd e (by decide)) (fun e => absurd e (by decide)) (fun _ => h1 (fun c => w c.2)) (fun e => absurd e (by decide))
  have good : ag_pledge x2 x3 x4 → wp_M_file Γ 0 x1 (2 : Int32) x2 (x3) (x4) ((0 : Int32)) σ post thr := fun w => ok_newM Γ (d := (de_pledge T x1 x2 x3 x4)) hd hm (fun _ y => tk_pledge hd.2.1 w y) (fun _ y hN => h ⟨y, w⟩ hN) (fun u => h1 (fun c => u ⟨rfl, c.1⟩)) (fun _ y e => h2 ⟨y, w⟩ e)
  exact no_parcel (fun a2 => ⟨fun z => absurd rfl z, fun _ => no_person (fun a3 => ⟨fun z => absurd rfl z, fun _ => no_amount (fun a4 => ⟨fun _ => good ⟨a2, a3, a4⟩, fun z => absurd rfl z⟩) (fun y => ⟨fun z => absurd z (by decide), fun _ => bad (fun w => y w.2.2)⟩)⟩) (fun y => ⟨fun _ => bad (fun w => y w.2.1), fun z => absurd z (by decide)⟩)⟩) (fun y => ⟨fun _ => bad (fun w => y w.1), fun z => absurd z (by decide)⟩)
theorem st_pledge {Γ : Ev} {σ : St} {x1 x2 x3 x4 : Int32} {Q : Int32 → Ev → St → Prop} {Z : Ev → St → Prop} (I : Inv Γ σ) (hZ : ∀ Γ' σ', Inv Γ' σ' → Z Γ' σ') (hQ : ∀ v Γ' σ', wp_M_pledge Γ' x1 x2 x3 x4 σ' (fun v12 σ13 => wp_M_thrown Γ' σ13 (fun v14 σ15 => cmpL v v14 (St.L σ15 6 (0 : Int32).toNatClampNeg) (Int32.toInt64 v12) (Z Γ' σ15)) (fun _ _ => False)) (fun _ _ => False) → Q v Γ' σ') : wp_W_pledge Γ x1 x2 x3 x4 σ Q := by
  obtain ⟨ds, N, T, V, hd, hi, hm, hl⟩ := I
  exact st_file (W := wp_LR_pledge Γ x1 x2 x3 x4 σ) (WM := fun Γ' σ' => wp_M_pledge Γ' x1 x2 x3 x4 σ') hd hi hm hl (fun c => have t := tk_pledge hd.2.1 c.2 c.1; ⟨t.1, t.2.1, t.2.2.2.1⟩) (fC_pledge Γ hd hi) (fun Γ' σ' m => fM_pledge Γ' hd m) hQ hZ
def ag_rerank (x2 x3 x4 x5 : Int32) : Prop := pcOK x2 ∧ rkOK x3 ∧ rkOK x4 ∧ ¬ x3 = x4
def de_rerank (T : Nat) (x1 x2 x3 x4 x5 : Int32) : Dd := (3, (T, (x1).toNatClampNeg), ((x2).toNatClampNeg, (x3).toNatClampNeg, (x4).toNatClampNeg), x5, (0, 0))
theorem tk_rerank {T : Nat} (hT : T ≤ 60) {x1 x2 x3 x4 x5 : Int32} (c : ag_rerank x2 x3 x4 x5) (hy : dyOK (nI T) x1) : dOK (de_rerank T x1 x2 x3 x4 x5) ∧ Dd.rec (de_rerank T x1 x2 x3 x4 x5) = T ∧ x1 = nI (Dd.fact (de_rerank T x1 x2 x3 x4 x5)) ∧ Dd.fact (de_rerank T x1 x2 x3 x4 x5) ≤ T ∧ (3 : Int32) = nI (Dd.k (de_rerank T x1 x2 x3 x4 x5)) ∧ x2 = nI (Dd.a (de_rerank T x1 x2 x3 x4 x5)) ∧ x3 = nI (if Dd.k (de_rerank T x1 x2 x3 x4 x5) = 1 then 8 * Dd.b (de_rerank T x1 x2 x3 x4 x5) + Dd.c (de_rerank T x1 x2 x3 x4 x5) else Dd.b (de_rerank T x1 x2 x3 x4 x5)) ∧ (Dd.k (de_rerank T x1 x2 x3 x4 x5) = 1 → x4 = nI (Dd.f (de_rerank T x1 x2 x3 x4 x5)).1 ∧ x5 = nI (Dd.f (de_rerank T x1 x2 x3 x4 x5)).2) ∧ (Dd.k (de_rerank T x1 x2 x3 x4 x5) = 2 → x4 = nI (Dd.c (de_rerank T x1 x2 x3 x4 x5))) ∧ (Dd.k (de_rerank T x1 x2 x3 x4 x5) = 3 → x4 = nI (Dd.c (de_rerank T x1 x2 x3 x4 x5)) ∧ x5 = Dd.e (de_rerank T x1 x2 x3 x4 x5)) := by
  obtain ⟨a2, a3, a4, a5⟩ := c
  exact ⟨⟨(xN_pc a2).2, (xN_rk a3).2.1, (xN_rk a3).2.2, (xN_rk a4).2.1, (xN_rk a4).2.2, xN_ne (n1_0 a3.1) (n1_0 a4.1) a5⟩, rfl, (xN_dy hT hy).1, (xN_dy hT hy).2, rfl, (xN_pc a2).1, (xN_rk a3).1, (fun z => absurd (show (3 : Nat) = 1 from z) (by decide)), (fun z => absurd (show (3 : Nat) = 2 from z) (by decide)), (fun _ => ⟨(xN_rk a4).1, rfl⟩)⟩
theorem fC_rerank (Γ : Ev) {σ : St} {ds : Nat → Dd} {N T : Nat} {V : Vw} {x1 x2 x3 x4 x5 : Int32} (hd : dsOK ds N T) (hi : IC Γ σ ds N T V) : spC σ ds N T (dyOK (nI T) x1 ∧ ag_rerank x2 x3 x4 x5) (de_rerank T x1 x2 x3 x4 x5) (wp_LR_rerank Γ x1 x2 x3 x4 x5 σ) := by
  intro post thr h h1 h2
  refine rq_fact hi.2.2.1 (fun a1 => rq_parcel (fun a2 => rq_rank (fun a3 => rq_rank (fun a4 => rq_diff (fun a5 => rq_free hi.2.1 (fun a0 qa => ?_) (fun a0 => h2 ⟨a1, a2, a3, a4, a5⟩ (n40 hd.1 a0))) (fun y => h1 (fun w => y w.2.2.2.2))) (fun y => h1 (fun w => y w.2.2.2.1))) (fun y => h1 (fun w => y w.2.2.1))) (fun y => h1 (fun w => y w.2.1))) (fun y => h1 (fun w => y w.1))
  have hN := n40' hd.1 a0
  obtain ⟨o1, o2, o3, o4, -⟩ := tk_rerank hd.2.1 ⟨a2, a3, a4, a5⟩ a1
  have en := hi.1
  rw [en]
  refine ⟨Ev.deed_nd en, Ev.deed_K en, Ev.deed_nd en, by rw [Ev.deed_K en]; decide, ?_⟩
  have of := (((((offN_deed (σ := σ) (N := N)).sI (k := 9) (v := -1) (by decide)).sI (k := 10) (v := x2) (by decide)).sI (k := 11) (v := x3) (by decide)).sI (k := 12) (v := x4) (by decide)).sI (k := 13) (v := x5) (by decide)
  have key := ok_newC Γ (d := (de_rerank T x1 x2 x3 x4 x5)) (ci := 5) (qa := qa) (post := fun v2 σ2 => post v2 (Γ.deed 5 qa) σ2) (thr := fun _ _ => False) hd hi hN rfl o1 o2 o4 of.1 of.2.1 of.2.2 (by simp (disch := decide) only [I_aL, L_aL_s, I_aI_s, I_aI_n, pk_us, pk_uLs]; exact (xN_pc a2).1) (by simp (disch := decide) only [I_aL, L_aL_s, I_aI_s, I_aI_n, pk_us, pk_uLs]; exact (xN_rk a3).1) (fun _ _ => by simp (disch := decide) only [I_aL, L_aL_s, I_aI_s, I_aI_n, pk_us, pk_uLs]; exact (xN_rk a4).1) (fun _ => by simp (disch := decide) only [I_aL, L_aL_s, I_aI_s, I_aI_n, pk_us, pk_uLs]; rfl) (fun z => absurd (show (3 : Nat) = 1 from z) (by decide)) (fun σ' a s l => h ⟨a1, a2, a3, a4, a5⟩ hN _ σ' a s l)
  rw [← o3] at key
  exact key
theorem fM_rerank (Γ : Ev) {σ : St} {ds : Nat → Dd} {N T : Nat} {V : Vw} {x1 x2 x3 x4 x5 : Int32} (hd : dsOK ds N T) (hm : IM σ ds N T V) : spM σ ds N T (dyOK (nI T) x1 ∧ ag_rerank x2 x3 x4 x5) (de_rerank T x1 x2 x3 x4 x5) (wp_M_rerank Γ x1 x2 x3 x4 x5 σ) := by
  intro post thr h h1 h2
  have bad : ¬ ag_rerank x2 x3 x4 x5 → wp_M_file Γ 1 x1 (3 : Int32) x2 (x3) (x4) (x5) σ post thr := fun w => ok_newM Γ (d := (de_rerank T x1 x2 x3 x4 x5)) hd hm (fun e => absurd e (by decide)) (fun e => absurd e (by decide)) (fun _ => h1 (fun c => w c.2)) (fun e => absurd e (by decide))
  have good : ag_rerank x2 x3 x4 x5 → wp_M_file Γ 0 x1 (3 : Int32) x2 (x3) (x4) (x5) σ post thr := fun w => ok_newM Γ (d := (de_rerank T x1 x2 x3 x4 x5)) hd hm (fun _ y => tk_rerank hd.2.1 w y) (fun _ y hN => h ⟨y, w⟩ hN) (fun u => h1 (fun c => u ⟨rfl, c.1⟩)) (fun _ y e => h2 ⟨y, w⟩ e)
  exact no_parcel (fun a2 => ⟨fun z => absurd rfl z, fun _ => ⟨fun z => bad (fun w => w.2.1.1 z), fun z1 => ⟨fun z => bad (fun w => i32_lt w.2.1.2 z), fun z2 => ⟨fun z => bad (fun w => w.2.2.1.1 z), fun z3 => ⟨fun z => bad (fun w => i32_lt w.2.2.1.2 z), fun z4 => ⟨fun z5 => good ⟨a2, ⟨z1, i32_nlt z2⟩, ⟨z3, i32_nlt z4⟩, z5⟩, fun z => bad (fun w => w.2.2.2 z)⟩⟩⟩⟩⟩⟩) (fun y => ⟨fun _ => bad (fun w => y w.1), fun z => absurd z (by decide)⟩)
theorem st_rerank {Γ : Ev} {σ : St} {x1 x2 x3 x4 x5 : Int32} {Q : Int32 → Ev → St → Prop} {Z : Ev → St → Prop} (I : Inv Γ σ) (hZ : ∀ Γ' σ', Inv Γ' σ' → Z Γ' σ') (hQ : ∀ v Γ' σ', wp_M_rerank Γ' x1 x2 x3 x4 x5 σ' (fun v12 σ13 => wp_M_thrown Γ' σ13 (fun v14 σ15 => cmpL v v14 (St.L σ15 6 (0 : Int32).toNatClampNeg) (Int32.toInt64 v12) (Z Γ' σ15)) (fun _ _ => False)) (fun _ _ => False) → Q v Γ' σ') : wp_W_rerank Γ x1 x2 x3 x4 x5 σ Q := by
  obtain ⟨ds, N, T, V, hd, hi, hm, hl⟩ := I
  exact st_file (W := wp_LR_rerank Γ x1 x2 x3 x4 x5 σ) (WM := fun Γ' σ' => wp_M_rerank Γ' x1 x2 x3 x4 x5 σ') hd hi hm hl (fun c => have t := tk_rerank hd.2.1 c.2 c.1; ⟨t.1, t.2.1, t.2.2.2.1⟩) (fC_rerank Γ hd hi) (fun Γ' σ' m => fM_rerank Γ' hd m) hQ hZ
def ag_release (x2 x3 : Int32) : Prop := pcOK x2 ∧ rkOK x3
def de_release (T : Nat) (x1 x2 x3 : Int32) : Dd := (4, (T, (x1).toNatClampNeg), ((x2).toNatClampNeg, (x3).toNatClampNeg, 0), 0, (0, 0))
theorem tk_release {T : Nat} (hT : T ≤ 60) {x1 x2 x3 : Int32} (c : ag_release x2 x3) (hy : dyOK (nI T) x1) : dOK (de_release T x1 x2 x3) ∧ Dd.rec (de_release T x1 x2 x3) = T ∧ x1 = nI (Dd.fact (de_release T x1 x2 x3)) ∧ Dd.fact (de_release T x1 x2 x3) ≤ T ∧ (4 : Int32) = nI (Dd.k (de_release T x1 x2 x3)) ∧ x2 = nI (Dd.a (de_release T x1 x2 x3)) ∧ x3 = nI (if Dd.k (de_release T x1 x2 x3) = 1 then 8 * Dd.b (de_release T x1 x2 x3) + Dd.c (de_release T x1 x2 x3) else Dd.b (de_release T x1 x2 x3)) ∧ (Dd.k (de_release T x1 x2 x3) = 1 → (0 : Int32) = nI (Dd.f (de_release T x1 x2 x3)).1 ∧ (0 : Int32) = nI (Dd.f (de_release T x1 x2 x3)).2) ∧ (Dd.k (de_release T x1 x2 x3) = 2 → (0 : Int32) = nI (Dd.c (de_release T x1 x2 x3))) ∧ (Dd.k (de_release T x1 x2 x3) = 3 → (0 : Int32) = nI (Dd.c (de_release T x1 x2 x3)) ∧ (0 : Int32) = Dd.e (de_release T x1 x2 x3)) := by
  obtain ⟨a2, a3⟩ := c
  exact ⟨⟨(xN_pc a2).2, (xN_rk a3).2.1, (xN_rk a3).2.2⟩, rfl, (xN_dy hT hy).1, (xN_dy hT hy).2, rfl, (xN_pc a2).1, (xN_rk a3).1, (fun z => absurd (show (4 : Nat) = 1 from z) (by decide)), (fun z => absurd (show (4 : Nat) = 2 from z) (by decide)), (fun z => absurd (show (4 : Nat) = 3 from z) (by decide))⟩
theorem fC_release (Γ : Ev) {σ : St} {ds : Nat → Dd} {N T : Nat} {V : Vw} {x1 x2 x3 : Int32} (hd : dsOK ds N T) (hi : IC Γ σ ds N T V) : spC σ ds N T (dyOK (nI T) x1 ∧ ag_release x2 x3) (de_release T x1 x2 x3) (wp_LR_release Γ x1 x2 x3 σ) := by
  intro post thr h h1 h2
  refine rq_fact hi.2.2.1 (fun a1 => rq_parcel (fun a2 => rq_rank (fun a3 => rq_free hi.2.1 (fun a0 qa => ?_) (fun a0 => h2 ⟨a1, a2, a3⟩ (n40 hd.1 a0))) (fun y => h1 (fun w => y w.2.2))) (fun y => h1 (fun w => y w.2.1))) (fun y => h1 (fun w => y w.1))
  have hN := n40' hd.1 a0
  obtain ⟨o1, o2, o3, o4, -⟩ := tk_release hd.2.1 ⟨a2, a3⟩ a1
  have en := hi.1
  rw [en]
  refine ⟨Ev.deed_nd en, Ev.deed_K en, Ev.deed_nd en, by rw [Ev.deed_K en]; decide, ?_⟩
  have of := (((offN_deed (σ := σ) (N := N)).sI (k := 9) (v := -1) (by decide)).sI (k := 10) (v := x2) (by decide)).sI (k := 11) (v := x3) (by decide)
  have key := ok_newC Γ (d := (de_release T x1 x2 x3)) (ci := 6) (qa := qa) (post := fun v2 σ2 => post v2 (Γ.deed 6 qa) σ2) (thr := fun _ _ => False) hd hi hN rfl o1 o2 o4 of.1 of.2.1 of.2.2 (by simp (disch := decide) only [I_aL, L_aL_s, I_aI_s, I_aI_n, pk_us, pk_uLs]; exact (xN_pc a2).1) (by simp (disch := decide) only [I_aL, L_aL_s, I_aI_s, I_aI_n, pk_us, pk_uLs]; exact (xN_rk a3).1) (fun _ z => absurd (show (4 : Nat) ≤ 3 from z) (by decide)) (fun z => absurd (show (4 : Nat) = 3 from z) (by decide)) (fun z => absurd (show (4 : Nat) = 1 from z) (by decide)) (fun σ' a s l => h ⟨a1, a2, a3⟩ hN _ σ' a s l)
  rw [← o3] at key
  exact key
theorem fM_release (Γ : Ev) {σ : St} {ds : Nat → Dd} {N T : Nat} {V : Vw} {x1 x2 x3 : Int32} (hd : dsOK ds N T) (hm : IM σ ds N T V) : spM σ ds N T (dyOK (nI T) x1 ∧ ag_release x2 x3) (de_release T x1 x2 x3) (wp_M_release Γ x1 x2 x3 σ) := by
  intro post thr h h1 h2
  have bad : ¬ ag_release x2 x3 → wp_M_file Γ 1 x1 (4 : Int32) x2 (x3) ((0 : Int32)) ((0 : Int32)) σ post thr := fun w => ok_newM Γ (d := (de_release T x1 x2 x3)) hd hm (fun e => absurd e (by decide)) (fun e => absurd e (by decide)) (fun _ => h1 (fun c => w c.2)) (fun e => absurd e (by decide))
  have good : ag_release x2 x3 → wp_M_file Γ 0 x1 (4 : Int32) x2 (x3) ((0 : Int32)) ((0 : Int32)) σ post thr := fun w => ok_newM Γ (d := (de_release T x1 x2 x3)) hd hm (fun _ y => tk_release hd.2.1 w y) (fun _ y hN => h ⟨y, w⟩ hN) (fun u => h1 (fun c => u ⟨rfl, c.1⟩)) (fun _ y e => h2 ⟨y, w⟩ e)
  exact no_parcel (fun a2 => ⟨fun z => absurd rfl z, fun _ => ⟨fun z => bad (fun w => w.2.1 z), fun z1 => ⟨fun z2 => good ⟨a2, z1, z2⟩, fun z => bad (fun w => z w.2.2)⟩⟩⟩) (fun y => ⟨fun _ => bad (fun w => y w.1), fun z => absurd z (by decide)⟩)
theorem st_release {Γ : Ev} {σ : St} {x1 x2 x3 : Int32} {Q : Int32 → Ev → St → Prop} {Z : Ev → St → Prop} (I : Inv Γ σ) (hZ : ∀ Γ' σ', Inv Γ' σ' → Z Γ' σ') (hQ : ∀ v Γ' σ', wp_M_release Γ' x1 x2 x3 σ' (fun v12 σ13 => wp_M_thrown Γ' σ13 (fun v14 σ15 => cmpL v v14 (St.L σ15 6 (0 : Int32).toNatClampNeg) (Int32.toInt64 v12) (Z Γ' σ15)) (fun _ _ => False)) (fun _ _ => False) → Q v Γ' σ') : wp_W_release Γ x1 x2 x3 σ Q := by
  obtain ⟨ds, N, T, V, hd, hi, hm, hl⟩ := I
  exact st_file (W := wp_LR_release Γ x1 x2 x3 σ) (WM := fun Γ' σ' => wp_M_release Γ' x1 x2 x3 σ') hd hi hm hl (fun c => have t := tk_release hd.2.1 c.2 c.1; ⟨t.1, t.2.1, t.2.2.2.1⟩) (fC_release Γ hd hi) (fun Γ' σ' m => fM_release Γ' hd m) hQ hZ
def ag_caution (x2 x3 : Int32) : Prop := pcOK x2 ∧ psOK x3
def de_caution (T : Nat) (x1 x2 x3 : Int32) : Dd := (5, (T, (x1).toNatClampNeg), ((x2).toNatClampNeg, (x3).toNatClampNeg, 0), 0, (0, 0))
theorem tk_caution {T : Nat} (hT : T ≤ 60) {x1 x2 x3 : Int32} (c : ag_caution x2 x3) (hy : dyOK (nI T) x1) : dOK (de_caution T x1 x2 x3) ∧ Dd.rec (de_caution T x1 x2 x3) = T ∧ x1 = nI (Dd.fact (de_caution T x1 x2 x3)) ∧ Dd.fact (de_caution T x1 x2 x3) ≤ T ∧ (5 : Int32) = nI (Dd.k (de_caution T x1 x2 x3)) ∧ x2 = nI (Dd.a (de_caution T x1 x2 x3)) ∧ x3 = nI (if Dd.k (de_caution T x1 x2 x3) = 1 then 8 * Dd.b (de_caution T x1 x2 x3) + Dd.c (de_caution T x1 x2 x3) else Dd.b (de_caution T x1 x2 x3)) ∧ (Dd.k (de_caution T x1 x2 x3) = 1 → (0 : Int32) = nI (Dd.f (de_caution T x1 x2 x3)).1 ∧ (0 : Int32) = nI (Dd.f (de_caution T x1 x2 x3)).2) ∧ (Dd.k (de_caution T x1 x2 x3) = 2 → (0 : Int32) = nI (Dd.c (de_caution T x1 x2 x3))) ∧ (Dd.k (de_caution T x1 x2 x3) = 3 → (0 : Int32) = nI (Dd.c (de_caution T x1 x2 x3)) ∧ (0 : Int32) = Dd.e (de_caution T x1 x2 x3)) := by
  obtain ⟨a2, a3⟩ := c
  exact ⟨⟨(xN_pc a2).2, (xN_ps a3).2⟩, rfl, (xN_dy hT hy).1, (xN_dy hT hy).2, rfl, (xN_pc a2).1, (xN_ps a3).1, (fun z => absurd (show (5 : Nat) = 1 from z) (by decide)), (fun z => absurd (show (5 : Nat) = 2 from z) (by decide)), (fun z => absurd (show (5 : Nat) = 3 from z) (by decide))⟩
theorem fC_caution (Γ : Ev) {σ : St} {ds : Nat → Dd} {N T : Nat} {V : Vw} {x1 x2 x3 : Int32} (hd : dsOK ds N T) (hi : IC Γ σ ds N T V) : spC σ ds N T (dyOK (nI T) x1 ∧ ag_caution x2 x3) (de_caution T x1 x2 x3) (wp_LR_caution Γ x1 x2 x3 σ) := by
  intro post thr h h1 h2
  refine rq_fact hi.2.2.1 (fun a1 => rq_parcel (fun a2 => rq_person (fun a3 => rq_free hi.2.1 (fun a0 qa => ?_) (fun a0 => h2 ⟨a1, a2, a3⟩ (n40 hd.1 a0))) (fun y => h1 (fun w => y w.2.2))) (fun y => h1 (fun w => y w.2.1))) (fun y => h1 (fun w => y w.1))
  have hN := n40' hd.1 a0
  obtain ⟨o1, o2, o3, o4, -⟩ := tk_caution hd.2.1 ⟨a2, a3⟩ a1
  have en := hi.1
  rw [en]
  refine ⟨Ev.deed_nd en, Ev.deed_K en, Ev.deed_nd en, by rw [Ev.deed_K en]; decide, ?_⟩
  have of := (((offN_deed (σ := σ) (N := N)).sI (k := 9) (v := -1) (by decide)).sI (k := 10) (v := x2) (by decide)).sI (k := 11) (v := x3) (by decide)
  have key := ok_newC Γ (d := (de_caution T x1 x2 x3)) (ci := 7) (qa := qa) (post := fun v2 σ2 => post v2 (Γ.deed 7 qa) σ2) (thr := fun _ _ => False) hd hi hN rfl o1 o2 o4 of.1 of.2.1 of.2.2 (by simp (disch := decide) only [I_aL, L_aL_s, I_aI_s, I_aI_n, pk_us, pk_uLs]; exact (xN_pc a2).1) (by simp (disch := decide) only [I_aL, L_aL_s, I_aI_s, I_aI_n, pk_us, pk_uLs]; exact (xN_ps a3).1) (fun _ z => absurd (show (5 : Nat) ≤ 3 from z) (by decide)) (fun z => absurd (show (5 : Nat) = 3 from z) (by decide)) (fun z => absurd (show (5 : Nat) = 1 from z) (by decide)) (fun σ' a s l => h ⟨a1, a2, a3⟩ hN _ σ' a s l)
  rw [← o3] at key
  exact key
theorem fM_caution (Γ : Ev) {σ : St} {ds : Nat → Dd} {N T : Nat} {V : Vw} {x1 x2 x3 : Int32} (hd : dsOK ds N T) (hm : IM σ ds N T V) : spM σ ds N T (dyOK (nI T) x1 ∧ ag_caution x2 x3) (de_caution T x1 x2 x3) (wp_M_caution Γ x1 x2 x3 σ) := by
  intro post thr h h1 h2
  have bad : ¬ ag_caution x2 x3 → wp_M_file Γ 1 x1 (5 : Int32) x2 (x3) ((0 : Int32)) ((0 : Int32)) σ post thr := fun w => ok_newM Γ (d := (de_caution T x1 x2 x3)) hd hm (fun e => absurd e (by decide)) (fun e => absurd e (by decide)) (fun _ => h1 (fun c => w c.2)) (fun e => absurd e (by decide))
  have good : ag_caution x2 x3 → wp_M_file Γ 0 x1 (5 : Int32) x2 (x3) ((0 : Int32)) ((0 : Int32)) σ post thr := fun w => ok_newM Γ (d := (de_caution T x1 x2 x3)) hd hm (fun _ y => tk_caution hd.2.1 w y) (fun _ y hN => h ⟨y, w⟩ hN) (fun u => h1 (fun c => u ⟨rfl, c.1⟩)) (fun _ y e => h2 ⟨y, w⟩ e)
  exact no_parcel (fun a2 => ⟨fun z => absurd rfl z, fun _ => no_person (fun a3 => ⟨fun _ => good ⟨a2, a3⟩, fun z => absurd rfl z⟩) (fun y => ⟨fun z => absurd z (by decide), fun _ => bad (fun w => y w.2)⟩)⟩) (fun y => ⟨fun _ => bad (fun w => y w.1), fun z => absurd z (by decide)⟩)
theorem st_caution {Γ : Ev} {σ : St} {x1 x2 x3 : Int32} {Q : Int32 → Ev → St → Prop} {Z : Ev → St → Prop} (I : Inv Γ σ) (hZ : ∀ Γ' σ', Inv Γ' σ' → Z Γ' σ') (hQ : ∀ v Γ' σ', wp_M_caution Γ' x1 x2 x3 σ' (fun v12 σ13 => wp_M_thrown Γ' σ13 (fun v14 σ15 => cmpL v v14 (St.L σ15 6 (0 : Int32).toNatClampNeg) (Int32.toInt64 v12) (Z Γ' σ15)) (fun _ _ => False)) (fun _ _ => False) → Q v Γ' σ') : wp_W_caution Γ x1 x2 x3 σ Q := by
  obtain ⟨ds, N, T, V, hd, hi, hm, hl⟩ := I
  exact st_file (W := wp_LR_caution Γ x1 x2 x3 σ) (WM := fun Γ' σ' => wp_M_caution Γ' x1 x2 x3 σ') hd hi hm hl (fun c => have t := tk_caution hd.2.1 c.2 c.1; ⟨t.1, t.2.1, t.2.2.2.1⟩) (fC_caution Γ hd hi) (fun Γ' σ' m => fM_caution Γ' hd m) hQ hZ
def ag_lift (x2 x3 : Int32) : Prop := pcOK x2 ∧ psOK x3
def de_lift (T : Nat) (x1 x2 x3 : Int32) : Dd := (6, (T, (x1).toNatClampNeg), ((x2).toNatClampNeg, (x3).toNatClampNeg, 0), 0, (0, 0))
theorem tk_lift {T : Nat} (hT : T ≤ 60) {x1 x2 x3 : Int32} (c : ag_lift x2 x3) (hy : dyOK (nI T) x1) : dOK (de_lift T x1 x2 x3) ∧ Dd.rec (de_lift T x1 x2 x3) = T ∧ x1 = nI (Dd.fact (de_lift T x1 x2 x3)) ∧ Dd.fact (de_lift T x1 x2 x3) ≤ T ∧ (6 : Int32) = nI (Dd.k (de_lift T x1 x2 x3)) ∧ x2 = nI (Dd.a (de_lift T x1 x2 x3)) ∧ x3 = nI (if Dd.k (de_lift T x1 x2 x3) = 1 then 8 * Dd.b (de_lift T x1 x2 x3) + Dd.c (de_lift T x1 x2 x3) else Dd.b (de_lift T x1 x2 x3)) ∧ (Dd.k (de_lift T x1 x2 x3) = 1 → (0 : Int32) = nI (Dd.f (de_lift T x1 x2 x3)).1 ∧ (0 : Int32) = nI (Dd.f (de_lift T x1 x2 x3)).2) ∧ (Dd.k (de_lift T x1 x2 x3) = 2 → (0 : Int32) = nI (Dd.c (de_lift T x1 x2 x3))) ∧ (Dd.k (de_lift T x1 x2 x3) = 3 → (0 : Int32) = nI (Dd.c (de_lift T x1 x2 x3)) ∧ (0 : Int32) = Dd.e (de_lift T x1 x2 x3)) := by
  obtain ⟨a2, a3⟩ := c
  exact ⟨⟨(xN_pc a2).2, (xN_ps a3).2⟩, rfl, (xN_dy hT hy).1, (xN_dy hT hy).2, rfl, (xN_pc a2).1, (xN_ps a3).1, (fun z => absurd (show (6 : Nat) = 1 from z) (by decide)), (fun z => absurd (show (6 : Nat) = 2 from z) (by decide)), (fun z => absurd (show (6 : Nat) = 3 from z) (by decide))⟩
theorem fC_lift (Γ : Ev) {σ : St} {ds : Nat → Dd} {N T : Nat} {V : Vw} {x1 x2 x3 : Int32} (hd : dsOK ds N T) (hi : IC Γ σ ds N T V) : spC σ ds N T (dyOK (nI T) x1 ∧ ag_lift x2 x3) (de_lift T x1 x2 x3) (wp_LR_lift Γ x1 x2 x3 σ) := by
  intro post thr h h1 h2
  refine rq_fact hi.2.2.1 (fun a1 => rq_parcel (fun a2 => rq_person (fun a3 => rq_free hi.2.1 (fun a0 qa => ?_) (fun a0 => h2 ⟨a1, a2, a3⟩ (n40 hd.1 a0))) (fun y => h1 (fun w => y w.2.2))) (fun y => h1 (fun w => y w.2.1))) (fun y => h1 (fun w => y w.1))
  have hN := n40' hd.1 a0
  obtain ⟨o1, o2, o3, o4, -⟩ := tk_lift hd.2.1 ⟨a2, a3⟩ a1
  have en := hi.1
  rw [en]
  refine ⟨Ev.deed_nd en, Ev.deed_K en, Ev.deed_nd en, by rw [Ev.deed_K en]; decide, ?_⟩
  have of := (((offN_deed (σ := σ) (N := N)).sI (k := 9) (v := -1) (by decide)).sI (k := 10) (v := x2) (by decide)).sI (k := 11) (v := x3) (by decide)
  have key := ok_newC Γ (d := (de_lift T x1 x2 x3)) (ci := 8) (qa := qa) (post := fun v2 σ2 => post v2 (Γ.deed 8 qa) σ2) (thr := fun _ _ => False) hd hi hN rfl o1 o2 o4 of.1 of.2.1 of.2.2 (by simp (disch := decide) only [I_aL, L_aL_s, I_aI_s, I_aI_n, pk_us, pk_uLs]; exact (xN_pc a2).1) (by simp (disch := decide) only [I_aL, L_aL_s, I_aI_s, I_aI_n, pk_us, pk_uLs]; exact (xN_ps a3).1) (fun _ z => absurd (show (6 : Nat) ≤ 3 from z) (by decide)) (fun z => absurd (show (6 : Nat) = 3 from z) (by decide)) (fun z => absurd (show (6 : Nat) = 1 from z) (by decide)) (fun σ' a s l => h ⟨a1, a2, a3⟩ hN _ σ' a s l)
  rw [← o3] at key
  exact key
theorem fM_lift (Γ : Ev) {σ : St} {ds : Nat → Dd} {N T : Nat} {V : Vw} {x1 x2 x3 : Int32} (hd : dsOK ds N T) (hm : IM σ ds N T V) : spM σ ds N T (dyOK (nI T) x1 ∧ ag_lift x2 x3) (de_lift T x1 x2 x3) (wp_M_lift Γ x1 x2 x3 σ) := by
  intro post thr h h1 h2
  have bad : ¬ ag_lift x2 x3 → wp_M_file Γ 1 x1 (6 : Int32) x2 (x3) ((0 : Int32)) ((0 : Int32)) σ post thr := fun w => ok_newM Γ (d := (de_lift T x1 x2 x3)) hd hm (fun e => absurd e (by decide)) (fun e => absurd e (by decide)) (fun _ => h1 (fun c => w c.2)) (fun e => absurd e (by decide))
  have good : ag_lift x2 x3 → wp_M_file Γ 0 x1 (6 : Int32) x2 (x3) ((0 : Int32)) ((0 : Int32)) σ post thr := fun w => ok_newM Γ (d := (de_lift T x1 x2 x3)) hd hm (fun _ y => tk_lift hd.2.1 w y) (fun _ y hN => h ⟨y, w⟩ hN) (fun u => h1 (fun c => u ⟨rfl, c.1⟩)) (fun _ y e => h2 ⟨y, w⟩ e)
  exact no_parcel (fun a2 => ⟨fun z => absurd rfl z, fun _ => no_person (fun a3 => ⟨fun _ => good ⟨a2, a3⟩, fun z => absurd rfl z⟩) (fun y => ⟨fun z => absurd z (by decide), fun _ => bad (fun w => y w.2)⟩)⟩) (fun y => ⟨fun _ => bad (fun w => y w.1), fun z => absurd z (by decide)⟩)
theorem st_lift {Γ : Ev} {σ : St} {x1 x2 x3 : Int32} {Q : Int32 → Ev → St → Prop} {Z : Ev → St → Prop} (I : Inv Γ σ) (hZ : ∀ Γ' σ', Inv Γ' σ' → Z Γ' σ') (hQ : ∀ v Γ' σ', wp_M_lift Γ' x1 x2 x3 σ' (fun v12 σ13 => wp_M_thrown Γ' σ13 (fun v14 σ15 => cmpL v v14 (St.L σ15 6 (0 : Int32).toNatClampNeg) (Int32.toInt64 v12) (Z Γ' σ15)) (fun _ _ => False)) (fun _ _ => False) → Q v Γ' σ') : wp_W_lift Γ x1 x2 x3 σ Q := by
  obtain ⟨ds, N, T, V, hd, hi, hm, hl⟩ := I
  exact st_file (W := wp_LR_lift Γ x1 x2 x3 σ) (WM := fun Γ' σ' => wp_M_lift Γ' x1 x2 x3 σ') hd hi hm hl (fun c => have t := tk_lift hd.2.1 c.2 c.1; ⟨t.1, t.2.1, t.2.2.2.1⟩) (fC_lift Γ hd hi) (fun Γ' σ' m => fM_lift Γ' hd m) hQ hZ
def ag_split (x2 x3 : Int32) : Prop := pcOK x2 ∧ unOK x3
def de_split (T : Nat) (x1 x2 x3 : Int32) : Dd := (7, (T, (x1).toNatClampNeg), ((x2).toNatClampNeg, (x3).toNatClampNeg, 0), 0, (0, 0))
theorem tk_split {T : Nat} (hT : T ≤ 60) {x1 x2 x3 : Int32} (c : ag_split x2 x3) (hy : dyOK (nI T) x1) : dOK (de_split T x1 x2 x3) ∧ Dd.rec (de_split T x1 x2 x3) = T ∧ x1 = nI (Dd.fact (de_split T x1 x2 x3)) ∧ Dd.fact (de_split T x1 x2 x3) ≤ T ∧ (7 : Int32) = nI (Dd.k (de_split T x1 x2 x3)) ∧ x2 = nI (Dd.a (de_split T x1 x2 x3)) ∧ x3 = nI (if Dd.k (de_split T x1 x2 x3) = 1 then 8 * Dd.b (de_split T x1 x2 x3) + Dd.c (de_split T x1 x2 x3) else Dd.b (de_split T x1 x2 x3)) ∧ (Dd.k (de_split T x1 x2 x3) = 1 → (0 : Int32) = nI (Dd.f (de_split T x1 x2 x3)).1 ∧ (0 : Int32) = nI (Dd.f (de_split T x1 x2 x3)).2) ∧ (Dd.k (de_split T x1 x2 x3) = 2 → (0 : Int32) = nI (Dd.c (de_split T x1 x2 x3))) ∧ (Dd.k (de_split T x1 x2 x3) = 3 → (0 : Int32) = nI (Dd.c (de_split T x1 x2 x3)) ∧ (0 : Int32) = Dd.e (de_split T x1 x2 x3)) := by
  obtain ⟨a2, a3⟩ := c
  exact ⟨⟨(xN_pc a2).2, (xN_un a3).2.1, (xN_un a3).2.2⟩, rfl, (xN_dy hT hy).1, (xN_dy hT hy).2, rfl, (xN_pc a2).1, (xN_un a3).1, (fun z => absurd (show (7 : Nat) = 1 from z) (by decide)), (fun z => absurd (show (7 : Nat) = 2 from z) (by decide)), (fun z => absurd (show (7 : Nat) = 3 from z) (by decide))⟩
theorem fC_split (Γ : Ev) {σ : St} {ds : Nat → Dd} {N T : Nat} {V : Vw} {x1 x2 x3 : Int32} (hd : dsOK ds N T) (hi : IC Γ σ ds N T V) : spC σ ds N T (dyOK (nI T) x1 ∧ ag_split x2 x3) (de_split T x1 x2 x3) (wp_LR_split Γ x1 x2 x3 σ) := by
  intro post thr h h1 h2
  refine rq_fact hi.2.2.1 (fun a1 => rq_parcel (fun a2 => rq_units (fun a3 => rq_free hi.2.1 (fun a0 qa => ?_) (fun a0 => h2 ⟨a1, a2, a3⟩ (n40 hd.1 a0))) (fun y => h1 (fun w => y w.2.2))) (fun y => h1 (fun w => y w.2.1))) (fun y => h1 (fun w => y w.1))
  have hN := n40' hd.1 a0
  obtain ⟨o1, o2, o3, o4, -⟩ := tk_split hd.2.1 ⟨a2, a3⟩ a1
  have en := hi.1
  rw [en]
  refine ⟨Ev.deed_nd en, Ev.deed_K en, Ev.deed_nd en, by rw [Ev.deed_K en]; decide, ?_⟩
  have of := (((offN_deed (σ := σ) (N := N)).sI (k := 9) (v := -1) (by decide)).sI (k := 10) (v := x2) (by decide)).sI (k := 11) (v := x3) (by decide)
  have key := ok_newC Γ (d := (de_split T x1 x2 x3)) (ci := 9) (qa := qa) (post := fun v2 σ2 => post v2 (Γ.deed 9 qa) σ2) (thr := fun _ _ => False) hd hi hN rfl o1 o2 o4 of.1 of.2.1 of.2.2 (by simp (disch := decide) only [I_aL, L_aL_s, I_aI_s, I_aI_n, pk_us, pk_uLs]; exact (xN_pc a2).1) (by simp (disch := decide) only [I_aL, L_aL_s, I_aI_s, I_aI_n, pk_us, pk_uLs]; exact (xN_un a3).1) (fun _ z => absurd (show (7 : Nat) ≤ 3 from z) (by decide)) (fun z => absurd (show (7 : Nat) = 3 from z) (by decide)) (fun z => absurd (show (7 : Nat) = 1 from z) (by decide)) (fun σ' a s l => h ⟨a1, a2, a3⟩ hN _ σ' a s l)
  rw [← o3] at key
  exact key
theorem fM_split (Γ : Ev) {σ : St} {ds : Nat → Dd} {N T : Nat} {V : Vw} {x1 x2 x3 : Int32} (hd : dsOK ds N T) (hm : IM σ ds N T V) : spM σ ds N T (dyOK (nI T) x1 ∧ ag_split x2 x3) (de_split T x1 x2 x3) (wp_M_split Γ x1 x2 x3 σ) := by
  intro post thr h h1 h2
  have bad : ¬ ag_split x2 x3 → wp_M_file Γ 1 x1 (7 : Int32) x2 (x3) ((0 : Int32)) ((0 : Int32)) σ post thr := fun w => ok_newM Γ (d := (de_split T x1 x2 x3)) hd hm (fun e => absurd e (by decide)) (fun e => absurd e (by decide)) (fun _ => h1 (fun c => w c.2)) (fun e => absurd e (by decide))
  have good : ag_split x2 x3 → wp_M_file Γ 0 x1 (7 : Int32) x2 (x3) ((0 : Int32)) ((0 : Int32)) σ post thr := fun w => ok_newM Γ (d := (de_split T x1 x2 x3)) hd hm (fun _ y => tk_split hd.2.1 w y) (fun _ y hN => h ⟨y, w⟩ hN) (fun u => h1 (fun c => u ⟨rfl, c.1⟩)) (fun _ y e => h2 ⟨y, w⟩ e)
  exact no_parcel (fun a2 => ⟨fun z => absurd rfl z, fun _ => no_amount (fun a3 => ⟨fun _ => good ⟨a2, a3⟩, fun z => absurd rfl z⟩) (fun y => ⟨fun z => absurd z (by decide), fun _ => bad (fun w => y w.2)⟩)⟩) (fun y => ⟨fun _ => bad (fun w => y w.1), fun z => absurd z (by decide)⟩)
theorem st_split {Γ : Ev} {σ : St} {x1 x2 x3 : Int32} {Q : Int32 → Ev → St → Prop} {Z : Ev → St → Prop} (I : Inv Γ σ) (hZ : ∀ Γ' σ', Inv Γ' σ' → Z Γ' σ') (hQ : ∀ v Γ' σ', wp_M_split Γ' x1 x2 x3 σ' (fun v12 σ13 => wp_M_thrown Γ' σ13 (fun v14 σ15 => cmpL v v14 (St.L σ15 6 (0 : Int32).toNatClampNeg) (Int32.toInt64 v12) (Z Γ' σ15)) (fun _ _ => False)) (fun _ _ => False) → Q v Γ' σ') : wp_W_split Γ x1 x2 x3 σ Q := by
  obtain ⟨ds, N, T, V, hd, hi, hm, hl⟩ := I
  exact st_file (W := wp_LR_split Γ x1 x2 x3 σ) (WM := fun Γ' σ' => wp_M_split Γ' x1 x2 x3 σ') hd hi hm hl (fun c => have t := tk_split hd.2.1 c.2 c.1; ⟨t.1, t.2.1, t.2.2.2.1⟩) (fC_split Γ hd hi) (fun Γ' σ' m => fM_split Γ' hd m) hQ hZ
def ag_merge (x2 x3 : Int32) : Prop := pcOK x2 ∧ pcOK x3 ∧ ¬ x2 = x3
def de_merge (T : Nat) (x1 x2 x3 : Int32) : Dd := (8, (T, (x1).toNatClampNeg), ((x2).toNatClampNeg, (x3).toNatClampNeg, 0), 0, (0, 0))
theorem tk_merge {T : Nat} (hT : T ≤ 60) {x1 x2 x3 : Int32} (c : ag_merge x2 x3) (hy : dyOK (nI T) x1) : dOK (de_merge T x1 x2 x3) ∧ Dd.rec (de_merge T x1 x2 x3) = T ∧ x1 = nI (Dd.fact (de_merge T x1 x2 x3)) ∧ Dd.fact (de_merge T x1 x2 x3) ≤ T ∧ (8 : Int32) = nI (Dd.k (de_merge T x1 x2 x3)) ∧ x2 = nI (Dd.a (de_merge T x1 x2 x3)) ∧ x3 = nI (if Dd.k (de_merge T x1 x2 x3) = 1 then 8 * Dd.b (de_merge T x1 x2 x3) + Dd.c (de_merge T x1 x2 x3) else Dd.b (de_merge T x1 x2 x3)) ∧ (Dd.k (de_merge T x1 x2 x3) = 1 → (0 : Int32) = nI (Dd.f (de_merge T x1 x2 x3)).1 ∧ (0 : Int32) = nI (Dd.f (de_merge T x1 x2 x3)).2) ∧ (Dd.k (de_merge T x1 x2 x3) = 2 → (0 : Int32) = nI (Dd.c (de_merge T x1 x2 x3))) ∧ (Dd.k (de_merge T x1 x2 x3) = 3 → (0 : Int32) = nI (Dd.c (de_merge T x1 x2 x3)) ∧ (0 : Int32) = Dd.e (de_merge T x1 x2 x3)) := by
  obtain ⟨a2, a3, a4⟩ := c
  exact ⟨⟨(xN_pc a2).2, (xN_pc a3).2, xN_ne a2.1 a3.1 a4⟩, rfl, (xN_dy hT hy).1, (xN_dy hT hy).2, rfl, (xN_pc a2).1, (xN_pc a3).1, (fun z => absurd (show (8 : Nat) = 1 from z) (by decide)), (fun z => absurd (show (8 : Nat) = 2 from z) (by decide)), (fun z => absurd (show (8 : Nat) = 3 from z) (by decide))⟩
theorem fC_merge (Γ : Ev) {σ : St} {ds : Nat → Dd} {N T : Nat} {V : Vw} {x1 x2 x3 : Int32} (hd : dsOK ds N T) (hi : IC Γ σ ds N T V) : spC σ ds N T (dyOK (nI T) x1 ∧ ag_merge x2 x3) (de_merge T x1 x2 x3) (wp_LR_merge Γ x1 x2 x3 σ) := by
  intro post thr h h1 h2
  refine rq_fact hi.2.2.1 (fun a1 => rq_parcel (fun a2 => rq_parcel (fun a3 => rq_diff (fun a4 => rq_free hi.2.1 (fun a0 qa => ?_) (fun a0 => h2 ⟨a1, a2, a3, a4⟩ (n40 hd.1 a0))) (fun y => h1 (fun w => y w.2.2.2))) (fun y => h1 (fun w => y w.2.2.1))) (fun y => h1 (fun w => y w.2.1))) (fun y => h1 (fun w => y w.1))
  have hN := n40' hd.1 a0
  obtain ⟨o1, o2, o3, o4, -⟩ := tk_merge hd.2.1 ⟨a2, a3, a4⟩ a1
  have en := hi.1
  rw [en]
  refine ⟨Ev.deed_nd en, Ev.deed_K en, Ev.deed_nd en, by rw [Ev.deed_K en]; decide, ?_⟩
  have of := (((offN_deed (σ := σ) (N := N)).sI (k := 9) (v := -1) (by decide)).sI (k := 10) (v := x2) (by decide)).sI (k := 11) (v := x3) (by decide)
  have key := ok_newC Γ (d := (de_merge T x1 x2 x3)) (ci := 10) (qa := qa) (post := fun v2 σ2 => post v2 (Γ.deed 10 qa) σ2) (thr := fun _ _ => False) hd hi hN rfl o1 o2 o4 of.1 of.2.1 of.2.2 (by simp (disch := decide) only [I_aL, L_aL_s, I_aI_s, I_aI_n, pk_us, pk_uLs]; exact (xN_pc a2).1) (by simp (disch := decide) only [I_aL, L_aL_s, I_aI_s, I_aI_n, pk_us, pk_uLs]; exact (xN_pc a3).1) (fun _ z => absurd (show (8 : Nat) ≤ 3 from z) (by decide)) (fun z => absurd (show (8 : Nat) = 3 from z) (by decide)) (fun z => absurd (show (8 : Nat) = 1 from z) (by decide)) (fun σ' a s l => h ⟨a1, a2, a3, a4⟩ hN _ σ' a s l)
  rw [← o3] at key
  exact key
theorem fM_merge (Γ : Ev) {σ : St} {ds : Nat → Dd} {N T : Nat} {V : Vw} {x1 x2 x3 : Int32} (hd : dsOK ds N T) (hm : IM σ ds N T V) : spM σ ds N T (dyOK (nI T) x1 ∧ ag_merge x2 x3) (de_merge T x1 x2 x3) (wp_M_merge Γ x1 x2 x3 σ) := by
  intro post thr h h1 h2
  have bad : ¬ ag_merge x2 x3 → wp_M_file Γ 1 x1 (8 : Int32) x2 (x3) ((0 : Int32)) ((0 : Int32)) σ post thr := fun w => ok_newM Γ (d := (de_merge T x1 x2 x3)) hd hm (fun e => absurd e (by decide)) (fun e => absurd e (by decide)) (fun _ => h1 (fun c => w c.2)) (fun e => absurd e (by decide))
  have good : ag_merge x2 x3 → wp_M_file Γ 0 x1 (8 : Int32) x2 (x3) ((0 : Int32)) ((0 : Int32)) σ post thr := fun w => ok_newM Γ (d := (de_merge T x1 x2 x3)) hd hm (fun _ y => tk_merge hd.2.1 w y) (fun _ y hN => h ⟨y, w⟩ hN) (fun u => h1 (fun c => u ⟨rfl, c.1⟩)) (fun _ y e => h2 ⟨y, w⟩ e)
  exact no_parcel (fun a2 => ⟨fun z => absurd rfl z, fun _ => no_parcel (fun a3 => ⟨fun z => absurd rfl z, fun _ => ⟨fun z => good ⟨a2, a3, z⟩, fun z => bad (fun w => w.2.2 z)⟩⟩) (fun y => ⟨fun _ => bad (fun w => y w.2.1), fun z => absurd z (by decide)⟩)⟩) (fun y => ⟨fun _ => bad (fun w => y w.1), fun z => absurd z (by decide)⟩)
theorem st_merge {Γ : Ev} {σ : St} {x1 x2 x3 : Int32} {Q : Int32 → Ev → St → Prop} {Z : Ev → St → Prop} (I : Inv Γ σ) (hZ : ∀ Γ' σ', Inv Γ' σ' → Z Γ' σ') (hQ : ∀ v Γ' σ', wp_M_merge Γ' x1 x2 x3 σ' (fun v12 σ13 => wp_M_thrown Γ' σ13 (fun v14 σ15 => cmpL v v14 (St.L σ15 6 (0 : Int32).toNatClampNeg) (Int32.toInt64 v12) (Z Γ' σ15)) (fun _ _ => False)) (fun _ _ => False) → Q v Γ' σ') : wp_W_merge Γ x1 x2 x3 σ Q := by
  obtain ⟨ds, N, T, V, hd, hi, hm, hl⟩ := I
  exact st_file (W := wp_LR_merge Γ x1 x2 x3 σ) (WM := fun Γ' σ' => wp_M_merge Γ' x1 x2 x3 σ') hd hi hm hl (fun c => have t := tk_merge hd.2.1 c.2 c.1; ⟨t.1, t.2.1, t.2.2.2.1⟩) (fC_merge Γ hd hi) (fun Γ' σ' m => fM_merge Γ' hd m) hQ hZ
