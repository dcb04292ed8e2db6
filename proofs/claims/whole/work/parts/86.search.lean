/-! Queries with loops: parcel, holding, owed -/
theorem up_eq {a y x : Int32} (h : a + y = x) : a = x ↔ y = 0 := by
  have h' : (a.toBitVec.toNat + y.toBitVec.toNat) % 2 ^ 32 = x.toBitVec.toNat := by rw [← h]; rfl
  have ha := a.toBitVec.isLt
  have hy := y.toBitVec.isLt
  have hx := x.toBitVec.isLt
  constructor
  · intro e
    rw [← e] at h'
    have z : y.toBitVec.toNat = 0 := by omega
    exact Int32.toBitVec_inj.mp (BitVec.eq_of_toNat_eq z)
  · intro e
    rw [e] at h
    rw [← h, Int32.add_zero]
theorem up_step {a y x : Int32} (h : a + y = x) : (a + 1) + (y + -1) = x := by
  rw [Int32.add_assoc, ← Int32.add_assoc 1 y, Int32.add_comm 1 y, Int32.add_assoc y 1 (-1), show (1 : Int32) + -1 = 0 from by decide, Int32.add_zero]
  exact h
def fnd (g : Nat → Bool) : Nat → Nat → Int32 → Int32
  | 0, _, _ => -1
  | r + 1, i, y => if g i = true then (if y = 0 then nI i else fnd g r (i + 1) (y + -1)) else fnd g r (i + 1) y
def livB (A : Land) (p : Nat) : Bool := match A.1 p with
  | none => false
  | some _ => true
def hldB (A : Land) (s p : Nat) : Bool := match A.1 p with
  | none => false
  | some x => decide (¬ (x.sh s).1 = 0)
section SEEK
variable {Γ : Ev} {σ : St} {A : Land} {x1 : Int32} {post : Int32 → St → Prop} {postL : Int64 → St → Prop} {thr : String → St → Prop}
theorem ok_parcC (hR : RC σ A) : ∀ (r i : Nat) (a y : Int32), i + r = 80 → a + y = x1 → post (fnd (livB A) r i y) σ → wp_LR_parcel_4 Γ post thr (r + 1) x1 a (nI i) σ := by
  intro r
  induction r with
  | zero =>
    intro i a y hi _ h
    exact ⟨fun _ => h, fun w => absurd (nI_le (a := 80) (b := i) (by omega) (by omega)) w⟩
  | succ r ih =>
    intro i a y hi hs h
    refine ⟨fun w => absurd w (nI_ge (a := i) (b := 80) (by omega) (by decide)), fun _ => ⟨vp_in_nI (by omega) (by decide), ?_⟩⟩
    rw [nI_clamp (by omega)]
    have z := hR.1 i (by omega)
    unfold fnd livB at h
    cases hA : A.1 i with
    | none =>
      rw [hA] at z h
      refine ⟨fun _ => ?_, fun w => absurd z w⟩
      show wp_LR_parcel_4 Γ post thr (r + 1) x1 a (nI i + 1) σ
      rw [nI_1]
      exact ih (i + 1) a y (by omega) hs h
    | some x =>
      rw [hA] at z h
      rw [if_pos rfl] at h
      refine ⟨fun w => absurd (z.1.symm.trans w) (by decide), fun _ => ⟨fun w => ?_, fun w => ?_⟩⟩
      · rw [if_neg (fun e => w ((up_eq hs).mpr e))] at h
        show wp_LR_parcel_4 Γ post thr (r + 1) x1 (a + 1) (nI i + 1) σ
        rw [nI_1]
        exact ih (i + 1) (a + 1) (y + -1) (by omega) (up_step hs) h
      · rw [if_pos ((up_eq hs).mp w)] at h
        exact h
theorem ok_parcM (hR : RM σ A) : ∀ (r i : Nat) (y : Int32), i + r = 80 → post (fnd (livB A) r i y) σ → wp_M_parcel_9 Γ post thr (r + 1) y (nI i) σ := by
  intro r
  induction r with
  | zero =>
    intro i y hi h
    exact ⟨fun _ => h, fun w => absurd (nI_le (a := 80) (b := i) (by omega) (by omega)) w⟩
  | succ r ih =>
    intro i y hi h
    refine ⟨fun w => absurd w (nI_ge (a := i) (b := 80) (by omega) (by decide)), fun _ => ⟨vp_in_nI (by omega) (by decide), ?_⟩⟩
    rw [nI_clamp (by omega)]
    have z := hR.1 i (by omega)
    unfold fnd livB at h
    cases hA : A.1 i with
    | none =>
      rw [hA] at z h
      refine ⟨fun _ => ?_, fun w => absurd z w⟩
      show wp_M_parcel_9 Γ post thr (r + 1) y (nI i + 1) σ
      rw [nI_1]
      exact ih (i + 1) y (by omega) h
    | some x =>
      rw [hA] at z h
      rw [if_pos rfl] at h
      refine ⟨fun w => absurd (z.1.symm.trans w) (by decide), fun _ => ⟨fun w => ?_, fun w => ?_⟩⟩
      · rw [if_neg w] at h
        show wp_M_parcel_9 Γ post thr (r + 1) (y + -1) (nI i + 1) σ
        rw [nI_1]
        exact ih (i + 1) (y + -1) (by omega) h
      · rw [if_pos w] at h
        exact h
theorem pkS_0 {s : Nat × Nat} (h : shOK s) : pkS s = 0 ↔ s.1 = 0 := by
  unfold pkS
  by_cases c : s.1 = 0
  · rw [if_pos c]; exact ⟨fun _ => c, fun _ => rfl⟩
  · rw [if_neg c]
    have := h.1
    have := h.2.2.1
    exact ⟨fun w => absurd w (lN_ne0 (by omega) (by omega)), fun w => absurd w c⟩
theorem ok_holdC {s : Nat} {x2 : Int32} (hR : RC σ A) (hl : LB 41 A) (hs8 : s < 8) : ∀ (r i : Nat) (a y : Int32), i + r = 80 → a + y = x2 → post (fnd (hldB A s) r i y) σ → wp_LR_holding_9 Γ post thr (r + 1) (nI s) x2 a (nI i) σ := by
  intro r
  induction r with
  | zero =>
    intro i a y hi _ h
    exact ⟨fun _ => h, fun w => absurd (nI_le (a := 80) (b := i) (by omega) (by omega)) w⟩
  | succ r ih =>
    intro i a y hi hs h
    have iv : vp_in (nI i) 80 := vp_in_nI (by omega) (by decide)
    refine ⟨fun w => absurd w (nI_ge (a := i) (b := 80) (by omega) (by decide)), fun _ => ⟨iv, ?_⟩⟩
    rw [nI_clamp (n := i) (by omega), nI_clamp (n := s) (by omega)]
    have z := hR.1 i (by omega)
    have go : ∀ (a y : Int32), a + y = x2 → post (fnd (hldB A s) r (i + 1) y) σ → wp_LR_holding_57 Γ (fun x1 x2 x3 x4 σ => wp_LR_holding_9 Γ post thr (r + 1) x1 x2 x3 x4 σ) post thr (nI s) x2 a (nI i) σ := by
      intro a y e h
      show wp_LR_holding_9 Γ post thr (r + 1) (nI s) x2 a (nI i + 1) σ
      rw [nI_1]
      exact ih (i + 1) a y (by omega) e h
    unfold fnd hldB at h
    cases hA : A.1 i with
    | none =>
      rw [hA] at z h
      exact ⟨fun _ => go a y hs h, fun w => absurd z w⟩
    | some x =>
      rw [hA] at z h
      dsimp only at h
      have ho := ((hl i (by omega) x hA).1 s hs8).ok (by decide)
      refine ⟨fun w => absurd (z.1.symm.trans w) (by decide), fun _ => ⟨iv, vp_in_nI hs8 (by decide), ?_⟩⟩
      rw [z.2.2.1 s hs8]
      refine ⟨fun w => ?_, fun w => ⟨fun w2 => ?_, fun w2 => ?_⟩⟩
      · have c := (pkS_0 ho).mp ((lg_cmp_eq _ _).mp w)
        rw [if_neg (fun e => absurd c (of_decide_eq_true e))] at h
        exact go a y hs h
      · have c : ¬ (x.sh s).1 = 0 := fun e => w ((lg_cmp_eq _ _).mpr ((pkS_0 ho).mpr e))
        rw [if_pos (decide_eq_true c), if_neg (fun e => w2 ((up_eq hs).mpr e))] at h
        exact go (a + 1) (y + -1) (up_step hs) h
      · have c : ¬ (x.sh s).1 = 0 := fun e => w ((lg_cmp_eq _ _).mpr ((pkS_0 ho).mpr e))
        rw [if_pos (decide_eq_true c), if_pos ((up_eq hs).mp w2)] at h
        exact h
theorem ok_holdM {s : Nat} (hR : RM σ A) (hl : LB 41 A) (hs8 : s < 8) : ∀ (r i : Nat) (y : Int32), i + r = 80 → post (fnd (hldB A s) r i y) σ → wp_M_holding_30 Γ post thr (r + 1) (nI s) y (nI i) σ := by
  intro r
  induction r with
  | zero =>
    intro i y hi h
    exact ⟨fun _ => h, fun w => absurd (nI_le (a := 80) (b := i) (by omega) (by omega)) w⟩
  | succ r ih =>
    intro i y hi h
    have iv : vp_in (nI i) 80 := vp_in_nI (by omega) (by decide)
    refine ⟨fun w => absurd w (nI_ge (a := i) (b := 80) (by omega) (by decide)), fun _ => ⟨iv, ?_⟩⟩
    rw [i8, nI_clamp (n := i) (by omega), nI_clamp (by omega)]
    have z := hR.1 i (by omega)
    have go : ∀ (y : Int32), post (fnd (hldB A s) r (i + 1) y) σ → wp_M_holding_74 Γ (fun x1 x3 x4 σ => wp_M_holding_30 Γ post thr (r + 1) x1 x3 x4 σ) post thr (nI s) y (nI i) σ := by
      intro y h
      show wp_M_holding_30 Γ post thr (r + 1) (nI s) y (nI i + 1) σ
      rw [nI_1]
      exact ih (i + 1) y (by omega) h
    unfold fnd hldB at h
    cases hA : A.1 i with
    | none =>
      rw [hA] at z h
      exact ⟨fun _ => go y h, fun w => absurd z w⟩
    | some x =>
      rw [hA] at z h
      dsimp only at h
      have ho := ((hl i (by omega) x hA).1 s hs8).ok (by decide)
      refine ⟨fun w => absurd (z.1.symm.trans w) (by decide), fun _ => ⟨vp_in_nI (by omega) (by decide), ?_⟩⟩
      rw [(z.2.2.1 s hs8).1]
      have t30 := ho.1
      have q : lg_cmp (lN (x.sh s).1) (0 : Int64) ≤ 0 ↔ (x.sh s).1 = 0 := by
        rw [lg_cmp_le, lN_0, lN_leq (by omega) (by decide)]
        omega
      refine ⟨fun w => ?_, fun w => ⟨fun w2 => ?_, fun w2 => ?_⟩⟩
      · have c := q.mp w
        rw [if_neg (fun e => absurd c (of_decide_eq_true e))] at h
        exact go y h
      · have c : ¬ (x.sh s).1 = 0 := fun e => w (q.mpr e)
        rw [if_pos (decide_eq_true c), if_neg w2] at h
        exact go (y + -1) h
      · have c : ¬ (x.sh s).1 = 0 := fun e => w (q.mpr e)
        rw [if_pos (decide_eq_true c), if_pos w2] at h
        exact h
/-- what a parcel's first mortgages owe to c -/
def inS (x : Pd) (c : Int32) : Nat → Int64
  | 0 => 0
  | r + 1 => if r < x.mn ∧ (x.mo r).1 = c then inS x c r + (x.mo r).2.toInt64 else inS x c r
def dueA (P : Option Pd) (c : Int32) (r : Nat) : Int64 := match P with
  | none => 0
  | some x => inS x c r
def owS (A : Land) (c : Int32) : Nat → Int64
  | 0 => 0
  | p + 1 => owS A c p + dueA (A.1 p) c 4
theorem inS_mn {x : Pd} {c : Int32} : ∀ j, inS x c (x.mn + j) = inS x c x.mn := by
  intro j
  induction j with
  | zero => rfl
  | succ j ih =>
    have e : inS x c ((x.mn + j) + 1) = if x.mn + j < x.mn ∧ (x.mo (x.mn + j)).1 = c then inS x c (x.mn + j) + (x.mo (x.mn + j)).2.toInt64 else inS x c (x.mn + j) := rfl
    rw [if_neg (by omega)] at e
    exact e.trans ih
theorem ok_owedP {x : Pd} {p : Nat} (hp : p < 80) (hmn : x.mn ≤ 4) (hz : rC σ p (some x)) (h : postL (inS x x1 4) σ) : wp_P_owedTo Γ p x1 σ postL thr := by
  obtain ⟨z1, z2, z3, z4, z5, z6⟩ := hz
  have lp : ∀ (r j : Nat), j + r = x.mn → wp_P_owedTo_5 Γ postL thr (r + 1) p x1 (inS x x1 j) (nI j) σ := by
    intro r
    induction r with
    | zero =>
      intro j hj
      refine ⟨hp, fun _ => ?_, fun w => absurd (by rw [z4]; exact nI_le (by omega) (by omega)) w⟩
      have e : inS x x1 4 = inS x x1 j := by
        have t := inS_mn (x := x) (c := x1) (4 - x.mn)
        rw [show x.mn + (4 - x.mn) = 4 by omega] at t
        rw [t, show x.mn = j by omega]
      rw [← e]
      exact h
    | succ r ih =>
      intro j hj
      have hl : j < x.mn := by omega
      have iv : vp_in (nI j) 4 := vp_in_nI (by omega) (by decide)
      have nx := ih (j + 1) (by omega)
      refine ⟨hp, fun w => absurd w (by rw [z4]; exact nI_ge (by omega) (by omega)), fun _ => ⟨iv, ?_⟩⟩
      rw [nI_clamp (by omega), (z5 j hl).1, (z5 j hl).2]
      unfold inS at nx
      refine ⟨fun w => ⟨hp, ?_⟩, fun w => ⟨iv, hp, ?_⟩⟩
      · rw [if_neg (fun e => w e.2)] at nx
        rw [nI_1]
        exact nx
      · rw [if_pos ⟨hl, w⟩] at nx
        rw [nI_1]
        exact nx
  exact ⟨hp, _, lp x.mn 0 (by omega)⟩
theorem ok_owedC (hR : RC σ A) (hl : LB 41 A) (h : postL (owS A x1 80) σ) : ∃ f, wp_LR_owed_9 Γ postL thr f x1 0 0 σ := by
  have lp : ∀ (r i : Nat), i + r = 80 → wp_LR_owed_9 Γ postL thr (r + 1) x1 (owS A x1 i) (nI i) σ := by
    intro r
    induction r with
    | zero =>
      intro i hi
      refine ⟨fun _ => ?_, fun w => absurd (nI_le (a := 80) (b := i) (by omega) (by omega)) w⟩
      rw [show i = 80 by omega]
      exact h
    | succ r ih =>
      intro i hi
      have iv : vp_in (nI i) 80 := vp_in_nI (by omega) (by decide)
      have nx := ih (i + 1) (by omega)
      refine ⟨fun w => absurd w (nI_ge (a := i) (b := 80) (by omega) (by decide)), fun _ => ⟨iv, ?_⟩⟩
      rw [nI_clamp (by omega)]
      have z := hR.1 i (by omega)
      unfold owS dueA at nx
      cases hA : A.1 i with
      | none =>
        rw [hA] at z nx
        dsimp only at nx
        rw [Int64.add_zero] at nx
        refine ⟨fun _ => ?_, fun w => absurd z w⟩
        show wp_LR_owed_9 Γ postL thr (r + 1) x1 (owS A x1 i) (nI i + 1) σ
        rw [nI_1]
        exact nx
      | some x =>
        rw [hA] at z nx
        refine ⟨fun w => absurd (z.1.symm.trans w) (by decide), fun _ => ⟨iv, ?_⟩⟩
        refine ok_owedP (by omega) (hl i (by omega) x hA).2 z ?_
        show wp_LR_owed_9 Γ postL thr (r + 1) x1 (owS A x1 i + inS x x1 4) (nI i + 1) σ
        rw [nI_1]
        exact nx
  exact ⟨_, lp 80 0 rfl⟩
theorem ok_owedM (hR : RM σ A) (hl : LB 41 A) (h0 : σ.I 20 0 = 0) (h : postL (owS A x1 80) σ) : ∃ f, wp_M_owed_21 Γ postL thr f x1 0 0 σ := by
  have lp : ∀ (q p r : Nat), 4 * p + r + q = 320 → r ≤ 3 → wp_M_owed_21 Γ postL thr (q + 1) x1 (owS A x1 p + dueA (A.1 p) x1 r) (nI (4 * p + r)) σ := by
    intro q
    induction q with
    | zero =>
      intro p r hq hr
      refine ⟨fun _ => ?_, fun w => absurd (nI_le (a := 320) (b := 4 * p + r) (by omega) (by omega)) w⟩
      have e1 : p = 80 := by omega
      have e2 : r = 0 := by omega
      subst e1 e2
      have e3 : dueA (A.1 80) x1 0 = 0 := by unfold dueA; cases A.1 80 <;> rfl
      rw [e3, Int64.add_zero]
      exact h
    | succ q ih =>
      intro p r hq hr
      have hp : p < 80 := by omega
      have nx : wp_M_owed_21 Γ postL thr (q + 1) x1 (owS A x1 p + dueA (A.1 p) x1 (r + 1)) (nI (4 * p + r + 1)) σ := by
        by_cases c : r = 3
        · subst c
          have t := ih (p + 1) 0 (by omega) (by omega)
          have e3 : dueA (A.1 (p + 1)) x1 0 = 0 := by unfold dueA; cases A.1 (p + 1) <;> rfl
          rw [e3, Int64.add_zero] at t
          exact t
        · exact ih p (r + 1) (by omega) (by omega)
      have ed : nI (4 * p + r) / (4 : Int32) = nI p := by
        rw [show (4 : Int32) = nI 4 from rfl, nI_divN (by omega) (by decide)]
        congr 1
        omega
      have em : nI (4 * p + r) - nI p * (4 : Int32) = nI r := by
        rw [show (4 : Int32) = nI 4 from rfl, nI_mulN, nI_subN (by omega)]
        congr 1
        omega
      have iv : vp_in (nI p) 80 := vp_in_nI hp (by decide)
      have iw : vp_in (nI (4 * p + r)) 320 := vp_in_nI (by omega) (by decide)
      refine ⟨fun w => absurd w (nI_ge (a := 4 * p + r) (b := 320) (by omega) (by decide)), fun _ => ⟨fun w => absurd h0 w, fun _ => ?_⟩⟩
      rw [ed, em]
      refine ⟨iv, ?_⟩
      rw [nI_clamp (n := p) (by omega), nI_clamp (n := 4 * p + r) (by omega)]
      have z := hR.1 p hp
      have go : ∀ v, wp_M_owed_21 Γ postL thr (q + 1) x1 v (nI (4 * p + r + 1)) σ → wp_M_owed_89 Γ (fun x1 x2 x4 σ => wp_M_owed_21 Γ postL thr (q + 1) x1 x2 x4 σ) postL thr x1 (nI (4 * p + r)) v σ := by
        intro v t
        show wp_M_owed_21 Γ postL thr (q + 1) x1 v (nI (4 * p + r) + 1) σ
        rw [nI_1]
        exact t
      unfold dueA at nx ⊢
      cases hA : A.1 p with
      | none =>
        rw [hA] at z nx
        exact ⟨fun _ => go _ nx, fun w => absurd z w⟩
      | some x =>
        rw [hA] at z nx
        dsimp only at nx ⊢
        obtain ⟨z1, z2, z3, z4, z5, z6⟩ := z
        have hm4 := (hl p hp x hA).2
        unfold inS at nx
        refine ⟨fun w => absurd (z1.symm.trans w) (by decide), fun _ => ⟨iv, ?_⟩⟩
        rw [z4]
        refine ⟨fun w => ?_, fun w => ?_⟩
        · have hge : x.mn ≤ r := (nI_leI (by omega) (by omega)).mp w
          rw [if_neg (by omega)] at nx
          exact go _ nx
        · have hlt : r < x.mn := by
            by_cases c : x.mn ≤ r
            · exact absurd (nI_le c (by omega)) w
            · omega
          rw [(z5 r hlt).1, (z5 r hlt).2]
          refine ⟨iw, fun w2 => ?_, fun w2 => ⟨iw, ?_⟩⟩
          · rw [if_neg (fun e => w2 e.2)] at nx
            exact go _ nx
          · rw [if_pos ⟨hlt, w2⟩] at nx
            rw [Int64.add_assoc]
            exact go _ nx
  have t := lp 320 0 0 rfl (by omega)
  have e3 : dueA (A.1 0) x1 0 = 0 := by unfold dueA; cases A.1 0 <;> rfl
  rw [e3] at t
  exact ⟨_, t⟩
end SEEK
section ASK
variable {Γ : Ev} {σ : St} {ds : Nat → Dd} {N T : Nat} {V : Vw} {x1 x2 x3 : Int32}
theorem gC_hold (hi : IC Γ σ ds N T V) (hl : LB 41 V.1) : sgC Γ σ ds N T V (psOK x1) (fnd (hldB V.1 ((x1).toNatClampNeg)) 80 0 x2) "java/lang/IllegalArgumentException" (wp_LR_holding Γ x1 x2 σ) := by
  intro post thr h hx
  refine rq_person (fun a => ?_) hx
  have hh := ask_C hi h a
  obtain ⟨e, l⟩ := xN_ps a
  have t := ok_holdC (Γ := Γ) (thr := thr) (x2 := x2) hi.R hl l 80 0 0 x2 rfl (Int32.zero_add _) hh
  rw [← e] at t
  exact ⟨_, t⟩
theorem gM_hold (hm : IM σ ds N T V) (hl : LB 41 V.1) : sgM σ ds N T V (psOK x1) (fnd (hldB V.1 ((x1).toNatClampNeg)) 80 0 x2) (wp_M_holding Γ x1 x2 σ) := by
  intro post thr h hx
  refine no_person (fun a => ⟨fun _ => ?_, fun z => absurd rfl z⟩) (fun y => ⟨fun z => absurd z (by decide), fun _ => ⟨fun w => absurd w (by rw [I_aI_s, pk_us]; decide), fun _ => hx y 0⟩⟩)
  have hh := ask_M hm h a
  obtain ⟨e, l⟩ := xN_ps a
  have t := ok_holdM (Γ := Γ) (thr := thr) (hm.t20 (v := 0)).R hl l 80 0 x2 rfl hh
  rw [← e] at t
  exact ⟨fun _ => ⟨_, t⟩, fun w => absurd (by rw [I_aI_s, pk_us]; decide) w⟩
theorem gC_owed (hi : IC Γ σ ds N T V) (hl : LB 41 V.1) : sgC Γ σ ds N T V (psOK x1) (owS V.1 x1 80) "java/lang/IllegalArgumentException" (wp_LR_owed Γ x1 σ) := by
  intro post thr h hx
  exact rq_person (fun a => ok_owedC hi.R hl (ask_C hi h a)) hx
theorem gM_owed (hm : IM σ ds N T V) (hl : LB 41 V.1) : sgM σ ds N T V (psOK x1) (owS V.1 x1 80) (wp_M_owed Γ x1 σ) := by
  intro post thr h hx
  refine no_person (fun a => ⟨fun _ => ?_, fun z => absurd rfl z⟩) (fun y => ⟨fun z => absurd z (by decide), fun _ => ⟨1, ?_⟩⟩)
  · exact ok_owedM (hm.t20 (v := 0)).R hl (by rw [I_aI_s, pk_us]) (ask_M hm h a)
  · exact ⟨fun w => absurd w (by decide), fun _ => ⟨fun _ => hx y 0, fun w => absurd w (by rw [I_aI_s, pk_us]; decide)⟩⟩
end ASK
