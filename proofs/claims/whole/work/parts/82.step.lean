/-! One call of the script, in general: what the class and the reference owe each other -/
def Inv (Γ : Ev) (σ : St) : Prop := ∃ ds N T V, dsOK ds N T ∧ IC Γ σ ds N T V ∧ IM σ ds N T V ∧ LB 41 V.1
def cmpL (v6 v14 : Int32) (o m : Int64) (Z : Prop) : Prop := ((v14 = v6 → ((¬ v6 = 0 → Z) ∧ (v6 = 0 → (((lg_cmp o m) = 0 → Z) ∧ (¬ (lg_cmp o m) = 0 → False))))) ∧ (¬ v14 = v6 → False))
theorem cmp_ok {v6 v14 : Int32} {o m : Int64} {Z : Prop} (h : v14 = v6) (e : v6 = 0 → o = m) (z : Z) : cmpL v6 v14 o m Z :=
  ⟨fun _ => ⟨fun _ => z, fun w => ⟨fun _ => z, fun y => y ((lg_cmp_eq _ _).mpr (e w))⟩⟩, fun y => y h⟩
theorem shB_mono {k l : Nat} {s : Nat × Nat} (h : shB k s) (hk : k ≤ l) : shB l s := ⟨h.1, h.2.1, h.2.2.1, Nat.le_trans h.2.2.2 (Nat.mul_le_mul_right _ hk)⟩
theorem LB_mono {k l : Nat} {A : Land} (h : LB k A) (hk : k ≤ l) : LB l A := fun p hp x hx => ⟨fun s hs => shB_mono ((h p hp x hx).1 s hs) hk, (h p hp x hx).2⟩
theorem LB_view {ds : Nat → Dd} {N T rc fc : Nat} (hd : dsOK ds N T) : LB 41 (viewA ds rc fc (ordL ds N 61)).1 :=
  LB_mono (view_okL (ordL ds N 61) (fun n hn => (hd.2.2 n (ordL_mem.mp hn).1).1)).1 (by rw [hd.len]; have := hd.1; omega)
theorem IM.t20 {σ : St} {ds : Nat → Dd} {N T : Nat} {V : Vw} {v : Int32} (h : IM σ ds N T V) : IM (St.sI σ 20 0 v) ds N T V := by
  obtain ⟨h1, h2, h3, h4, h5⟩ := h
  refine ⟨by rw [I_aI_s, pk_un (by decide)]; exact h1, by rw [I_aI_s, pk_un (by decide)]; exact h2, fun n hn => (h3 n hn).keep', ⟨fun p hp => ?_, fun p hp => ?_⟩, fun n hn => by rw [I_aI_n (by decide)]; exact h5 n hn⟩
  · have z := h4.1 p hp
    cases hA : V.1.1 p with
    | none => rw [hA] at z; show St.I (St.sI σ 20 0 v) 29 p = 0; rw [I_aI_n (by decide)]; exact z
    | some x =>
      rw [hA] at z
      obtain ⟨x1, x2, x3, x4, x5, x6⟩ := z
      exact ⟨by rw [I_aI_n (by decide)]; exact x1, x2, x3, by rw [I_aI_n (by decide)]; exact x4, fun r hr => by rw [I_aI_n (by decide), I_aI_n (by decide)]; exact x5 r hr, by rw [I_aI_n (by decide)]; exact x6⟩
  · rw [I_aI_n (by decide), I_aI_n (by decide)]; exact h4.2 p hp
theorem sameM_L {σ σ' : St} {v : Int64} (h : sameM σ σ') : sameM σ (St.sL σ' 6 (0 : Int32).toNatClampNeg v) := ⟨h.1, fun k hk => (L_aL_n (by omega)).trans (h.2 k hk)⟩
theorem sameC_L {σ : St} {v : Int64} : sameC σ (St.sL σ 6 (0 : Int32).toNatClampNeg v) := ⟨fun _ _ => rfl, fun k hk => L_aL_n (by omega), rfl⟩
/-- the class's filing -/
def spC (σ : St) (ds : Nat → Dd) (N T : Nat) (cond : Prop) (d : Dd) (W : (Int32 → Ev → St → Prop) → (String → St → Prop) → Prop) : Prop := ∀ (post : Int32 → Ev → St → Prop) (thr : String → St → Prop), (cond → N < 40 → ∀ Γ' σ', IC Γ' σ' (va_up ds N d) (N + 1) T (newV (va_up ds N d) (N + 1) T) → sameM σ σ' → σ'.L 6 = σ.L 6 → post (nI N) Γ' σ') → (¬ cond → thr "java/lang/IllegalArgumentException" σ) → (cond → N = 40 → thr "java/lang/IllegalStateException" σ) → W post thr
/-- the reference's filing -/
def spM (σ : St) (ds : Nat → Dd) (N T : Nat) (cond : Prop) (d : Dd) (W : (Int32 → St → Prop) → (String → St → Prop) → Prop) : Prop := ∀ (post : Int32 → St → Prop) (thr : String → St → Prop), (cond → N < 40 → ∀ σ', IM σ' (va_up ds N d) (N + 1) T (newV (va_up ds N d) (N + 1) T) → sameC σ σ' → σ'.L 6 = σ.L 6 → σ'.I 20 0 = 0 → post (nI N) σ') → (¬ cond → post 0 (St.sI σ 20 0 1)) → (cond → N = 40 → post 0 (St.sI σ 20 0 2)) → W post thr
theorem st_file {Γ : Ev} {σ : St} {ds : Nat → Dd} {N T : Nat} {V : Vw} {cond : Prop} {d : Dd} {W : (Int32 → Ev → St → Prop) → (String → St → Prop) → Prop} {WM : Ev → St → (Int32 → St → Prop) → (String → St → Prop) → Prop} {Q : Int32 → Ev → St → Prop} {Z : Ev → St → Prop}
    (hd : dsOK ds N T) (hi : IC Γ σ ds N T V) (hm : IM σ ds N T V) (hl : LB 41 V.1) (hc : cond → dOK d ∧ d.rec = T ∧ d.fact ≤ T) (hC : spC σ ds N T cond d W) (hM : ∀ Γ' σ', IM σ' ds N T V → spM σ' ds N T cond d (WM Γ' σ'))
    (hQ : ∀ v Γ' σ', WM Γ' σ' (fun v12 σ13 => wp_M_thrown Γ' σ13 (fun v14 σ15 => cmpL v v14 (St.L σ15 6 (0 : Int32).toNatClampNeg) (Int32.toInt64 v12) (Z Γ' σ15)) (fun _ _ => False)) (fun _ _ => False) → Q v Γ' σ') (hZ : ∀ Γ' σ', Inv Γ' σ' → Z Γ' σ') :
    W (fun v Γ1 σ1 => Q (0 : Int32) Γ1 (St.sL σ1 6 (0 : Int32).toNatClampNeg (Int32.toInt64 v))) (fun E σ1 => (E = "java/lang/IllegalArgumentException" → Q (1 : Int32) Γ σ1) ∧ (E = "java/lang/IllegalStateException" → Q (2 : Int32) Γ σ1) ∧ (E = "java/lang/IllegalArgumentException" ∨ E = "java/lang/IllegalStateException")) := by
  have hN := hd.1
  refine hC _ _ (fun c hN' Γ' σ' a sm l6 => ?_) (fun c => ⟨fun _ => ?_, fun e => absurd e (by decide), .inl rfl⟩) (fun c hN' => ⟨fun e => absurd e (by decide), fun _ => ?_, .inr rfl⟩)
  · refine hQ _ _ _ (hM _ _ (hm.same (sameM_L sm)) _ _ (fun _ _ σ3 b sc m6 t0 => ?_) (fun y => absurd c y) (fun _ y => by omega))
    obtain ⟨o1, o2, o3⟩ := hc c
    have hd' := ds_new hd hN' o1 o2 o3
    exact cmp_ok t0 (fun _ => by rw [m6, L_aL_s, pk_uLs]) (hZ _ _ ⟨_, _, _, _, hd', a.same (sameC_L.tr sc), b, LB_view hd'⟩)
  · refine hQ _ _ _ (hM _ _ hm _ _ (fun y => absurd y c) (fun _ => ?_) (fun y => absurd y c))
    exact cmp_ok (by rw [I_aI_s, pk_us]) (fun y => absurd y (by decide)) (hZ _ _ ⟨_, _, _, _, hd, hi.same sameC_20, hm.t20, hl⟩)
  · refine hQ _ _ _ (hM _ _ hm _ _ (fun _ y => by omega) (fun y => absurd c y) (fun _ _ => ?_))
    exact cmp_ok (by rw [I_aI_s, pk_us]) (fun y => absurd y (by decide)) (hZ _ _ ⟨_, _, _, _, hd, hi.same sameC_20, hm.t20, hl⟩)
/-- a call that files nothing: the class's, the reference's -/
def sgC {α : Type} (Γ : Ev) (σ : St) (ds : Nat → Dd) (N T : Nat) (V : Vw) (cond : Prop) (b : α) (E : String) (W : (α → St → Prop) → (String → St → Prop) → Prop) : Prop := ∀ (post : α → St → Prop) (thr : String → St → Prop), (cond → ∀ σ', IC Γ σ' ds N T V → sameM σ σ' → σ'.L 6 = σ.L 6 → post b σ') → (¬ cond → thr E σ) → W post thr
def sgM {α : Type} (σ : St) (ds : Nat → Dd) (N T : Nat) (V : Vw) (cond : Prop) (b : α) (W : (α → St → Prop) → (String → St → Prop) → Prop) : Prop := ∀ (post : α → St → Prop) (thr : String → St → Prop), (cond → ∀ σ', IM σ' ds N T V → sameC σ σ' → σ'.L 6 = σ.L 6 → σ'.I 20 0 = 0 → post b σ') → (¬ cond → ∀ v, post v (St.sI σ 20 0 1)) → W post thr
theorem st_call {α : Type} (conv : α → Int64) {Γ : Ev} {σ : St} {ds : Nat → Dd} {N T T' : Nat} {V V' : Vw} {cond : Prop} {b : α} {E : String} {W : (α → St → Prop) → (String → St → Prop) → Prop} {WM : St → (α → St → Prop) → (String → St → Prop) → Prop} {Q : Int32 → St → Prop} {Z : St → Prop}
    (hd : dsOK ds N T) (hi : IC Γ σ ds N T V) (hm : IM σ ds N T V) (hl : LB 41 V.1) (hc : cond → dsOK ds N T' ∧ LB 41 V'.1) (hC : sgC Γ σ ds N T' V' cond b E W) (hM : ∀ σ', IM σ' ds N T V → sgM σ' ds N T' V' cond b (WM σ'))
    (hQ : ∀ v σ', WM σ' (fun v12 σ13 => wp_M_thrown Γ σ13 (fun v14 σ15 => cmpL v v14 (St.L σ15 6 (0 : Int32).toNatClampNeg) (conv v12) (Z σ15)) (fun _ _ => False)) (fun _ _ => False) → Q v σ') (hZ : ∀ σ', Inv Γ σ' → Z σ') :
    W (fun v σ1 => Q (0 : Int32) (St.sL σ1 6 (0 : Int32).toNatClampNeg (conv v))) (fun E' σ1 => (E' = E → Q (1 : Int32) σ1) ∧ (E' = E)) := by
  refine hC _ _ (fun c σ' a sm l6 => ?_) (fun c => ⟨fun _ => ?_, rfl⟩)
  · refine hQ _ _ (hM _ (hm.same (sameM_L sm)) _ _ (fun _ σ3 q sc m6 t0 => ?_) (fun y => absurd c y))
    exact cmp_ok t0 (fun _ => by rw [m6, L_aL_s, pk_uLs]) (hZ _ ⟨_, _, _, _, (hc c).1, a.same (sameC_L.tr sc), q, (hc c).2⟩)
  · refine hQ _ _ (hM _ hm _ _ (fun y => absurd y c) (fun _ v => ?_))
    exact cmp_ok (by rw [I_aI_s, pk_us]) (fun y => absurd y (by decide)) (hZ _ ⟨_, _, _, _, hd, hi.same sameC_20, hm.t20, hl⟩)
