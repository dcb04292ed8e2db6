/-! The reference's parcels -/
/-- nothing but parcel a has changed in the reference -/
def exM (a : Nat) (σ σ' : St) : Prop := (∀ k, ¬ (k = 31 ∨ k = 32) → ∀ p, p ≠ a → σ'.I k p = σ.I k p) ∧ (∀ p, p ≠ a → σ'.L 3 p = σ.L 3 p) ∧ (∀ p, p ≠ a → ∀ s, s < 8 → σ'.L 4 (8 * p + s) = σ.L 4 (8 * p + s) ∧ σ'.L 5 (8 * p + s) = σ.L 5 (8 * p + s)) ∧ (∀ p, p ≠ a → ∀ r, r < 4 → σ'.I 31 (4 * p + r) = σ.I 31 (4 * p + r) ∧ σ'.I 32 (4 * p + r) = σ.I 32 (4 * p + r)) ∧ keepM σ σ'
theorem exM.rf {a : Nat} {σ : St} : exM a σ σ := ⟨fun _ _ _ _ => rfl, fun _ _ => rfl, fun _ _ _ _ => ⟨rfl, rfl⟩, fun _ _ _ _ => ⟨rfl, rfl⟩, keepM.rf⟩
theorem exM.tr {a : Nat} {σ σ1 σ2 : St} (h : exM a σ σ1) (g : exM a σ1 σ2) : exM a σ σ2 := ⟨fun k hk p hp => (g.1 k hk p hp).trans (h.1 k hk p hp), fun p hp => (g.2.1 p hp).trans (h.2.1 p hp), fun p hp s hs => ⟨(g.2.2.1 p hp s hs).1.trans (h.2.2.1 p hp s hs).1, (g.2.2.1 p hp s hs).2.trans (h.2.2.1 p hp s hs).2⟩, fun p hp s hs => ⟨(g.2.2.2.1 p hp s hs).1.trans (h.2.2.2.1 p hp s hs).1, (g.2.2.2.1 p hp s hs).2.trans (h.2.2.2.1 p hp s hs).2⟩, h.2.2.2.2.tr g.2.2.2.2⟩
theorem exM.I {a k : Nat} {σ : St} {v : Int32} (hk : 29 ≤ k ∧ k ≤ 35) (hn : ¬ (k = 31 ∨ k = 32)) : exM a σ (St.sI σ k a v) := by
  refine ⟨fun j hj p hp => ?_, fun _ _ => rfl, fun _ _ _ _ => ⟨rfl, rfl⟩, fun p hp r hr => ⟨by rw [I_aI_n (by omega)], by rw [I_aI_n (by omega)]⟩, keepM.I hk⟩
  by_cases h : j = k
  · subst h; rw [I_aI_s]; exact pk_un hp
  · rw [I_aI_n h]
theorem exM.L3 {a : Nat} {σ : St} {v : Int64} : exM a σ (St.sL σ 3 a v) := by
  refine ⟨fun _ _ _ _ => rfl, fun p hp => ?_, fun p hp s hs => ⟨by rw [L_aL_n (by omega)], by rw [L_aL_n (by omega)]⟩, fun _ _ _ _ => ⟨rfl, rfl⟩, keepM.L (by omega)⟩
  rw [L_aL_s]; exact pk_uLn hp
theorem exM.L4 {a s : Nat} {σ : St} {v : Int64} (hs : s < 8) : exM a σ (St.sL σ 4 (8 * a + s) v) :=
  ⟨fun _ _ _ _ => rfl, fun p hp => by rw [L_aL_n (by omega)], fun p hp t ht => ⟨by rw [L_aL_s]; exact pk_uLn (by omega), by rw [L_aL_n (by omega)]⟩, fun _ _ _ _ => ⟨rfl, rfl⟩, keepM.L (by omega)⟩
theorem exM.L5 {a s : Nat} {σ : St} {v : Int64} (hs : s < 8) : exM a σ (St.sL σ 5 (8 * a + s) v) :=
  ⟨fun _ _ _ _ => rfl, fun p hp => by rw [L_aL_n (by omega)], fun p hp t ht => ⟨by rw [L_aL_n (by omega)], by rw [L_aL_s]; exact pk_uLn (by omega)⟩, fun _ _ _ _ => ⟨rfl, rfl⟩, keepM.L (by omega)⟩
theorem exM.I31 {a r : Nat} {σ : St} {v : Int32} (hr : r < 4) : exM a σ (St.sI σ 31 (4 * a + r) v) :=
  ⟨fun k hk p hp => by rw [I_aI_n (by omega)], fun _ _ => rfl, fun _ _ _ _ => ⟨rfl, rfl⟩, fun p hp t ht => ⟨by rw [I_aI_s]; exact pk_un (by omega), by rw [I_aI_n (by omega)]⟩, keepM.I (by omega)⟩
theorem exM.I32 {a r : Nat} {σ : St} {v : Int32} (hr : r < 4) : exM a σ (St.sI σ 32 (4 * a + r) v) :=
  ⟨fun k hk p hp => by rw [I_aI_n (by omega)], fun _ _ => rfl, fun _ _ _ _ => ⟨rfl, rfl⟩, fun p hp t ht => ⟨by rw [I_aI_n (by omega)], by rw [I_aI_s]; exact pk_un (by omega)⟩, keepM.I (by omega)⟩
def mD (σ : St) (p : Nat) (x : Pd) : Prop := σ.L 3 p = x.ar ∧ (∀ s, s < 8 → σ.L 4 (8 * p + s) = lN (x.sh s).1 ∧ σ.L 5 (8 * p + s) = lN (x.sh s).2) ∧ σ.I 30 p = nI x.mn ∧ (∀ r, r < x.mn → σ.I 31 (4 * p + r) = (x.mo r).1 ∧ σ.I 32 (4 * p + r) = (x.mo r).2) ∧ σ.I 33 p = x.wn
theorem mD.ex {a p : Nat} {σ σ' : St} {x : Pd} (h : mD σ p x) (hm : x.mn ≤ 4) (g : exM a σ σ') (hne : p ≠ a) : mD σ' p x := by
  obtain ⟨h1, h2, h3, h4, h5⟩ := h
  obtain ⟨g1, g2, g3, g4, -⟩ := g
  exact ⟨(g2 p hne).trans h1, fun s hs => by rw [(g3 p hne s hs).1, (g3 p hne s hs).2]; exact h2 s hs, (g1 30 (by omega) p hne).trans h3, fun r hr => by rw [(g4 p hne r (by omega)).1, (g4 p hne r (by omega)).2]; exact h4 r hr, (g1 33 (by omega) p hne).trans h5⟩
theorem RM_ex {σ σ' : St} {A : Land} {a k : Nat} {P : Option Pd} {o : Int32 × Int32} (hR : RM σ A) (hB : LB k A) (g : exM a σ σ') (hx : rM σ' a P) (hO : σ'.I 34 a = o.1 ∧ σ'.I 35 a = o.2) : RM σ' (setO (setP A a P) a o) := by
  refine ⟨fun p hp => ?_, fun p hp => ?_⟩
  · rw [setO_p]
    by_cases h : p = a
    · subst h; rw [setP_s]; exact hx
    · rw [setP_n h]
      have z := hR.1 p hp
      cases hA : A.1 p with
      | none => rw [hA] at z; exact (g.1 29 (by omega) p h).trans z
      | some x => rw [hA] at z; exact ⟨(g.1 29 (by omega) p h).trans z.1, mD.ex z.2 (hB p hp x hA).2 g h⟩
  · by_cases h : p = a
    · subst h; rw [setO_s]; exact hO
    · rw [setO_n h, setP_o, g.1 34 (by omega) p h, g.1 35 (by omega) p h]; exact hR.2 p hp
theorem RM_ex1 {σ σ' : St} {A : Land} {a k : Nat} {P : Option Pd} (hR : RM σ A) (hB : LB k A) (ha : a < 80) (g : exM a σ σ') (hx : rM σ' a P) (hO : σ'.I 34 a = σ.I 34 a ∧ σ'.I 35 a = σ.I 35 a) : RM σ' (setP A a P) := by
  have z := RM_ex (o := A.2 a) hR hB g hx ⟨hO.1.trans (hR.2 a ha).1, hO.2.trans (hR.2 a ha).2⟩
  rw [setO_id] at z
  exact z
/-- what is known of parcel p while it is being made -/
def mkS (σ0 σ : St) (p m i : Nat) (v : Int64) (F : Nat → Nat × Nat) : Prop := exM p σ0 σ ∧ σ.I 29 p = 1 ∧ σ.L 3 p = v ∧ σ.I 33 p = 0 ∧ σ.I 30 p = nI m ∧ (∀ s, s < i → σ.L 4 (8 * p + s) = lN (F s).1 ∧ σ.L 5 (8 * p + s) = lN (F s).2) ∧ σ.I 34 p = σ0.I 34 p ∧ σ.I 35 p = σ0.I 35 p
theorem mkS.step {σ0 σ : St} {p m i : Nat} {v : Int64} {F : Nat → Nat × Nat} (h : mkS σ0 σ p m i v F) (hi : i < 8) : mkS σ0 (St.sL (St.sL σ 4 (8 * p + i) (lN (F i).1)) 5 (8 * p + i) (lN (F i).2)) p m (i + 1) v F := by
  obtain ⟨h1, h2, h3, h4, h5, h6, h7, h8⟩ := h
  refine ⟨(h1.tr (exM.L4 hi)).tr (exM.L5 hi), h2, ?_, h4, h5, fun s hs => ?_, h7, h8⟩
  · simp (disch := omega) only [L_aL_n]; exact h3
  · simp (disch := omega) only [L_aL_s, L_aL_n]
    by_cases e : s = i
    · subst e; rw [pk_uLs, pk_uLs]; exact ⟨rfl, rfl⟩
    · rw [pk_uLn (by omega), pk_uLn (by omega)]; exact h6 s (by omega)
theorem mkS.start {σ : St} {p m : Nat} {v : Int64} {F : Nat → Nat × Nat} : mkS σ (St.sI (St.sI (St.sL (St.sI σ 29 p 1) 3 p v) 33 p 0) 30 p (nI m)) p m 0 v F := by
  refine ⟨(((exM.I (by omega) (by omega)).tr exM.L3).tr (exM.I (by omega) (by omega))).tr (exM.I (by omega) (by omega)), ?_, ?_, ?_, ?_, fun s hs => absurd hs (Nat.not_lt_zero _), ?_, ?_⟩
  · simp (disch := omega) only [I_aI_s, I_aI_n, I_aL, pk_us]
  · simp (disch := omega) only [L_aI, L_aL_s, pk_uLs]
  · simp (disch := omega) only [I_aI_s, I_aI_n, I_aL, pk_us]
  · simp (disch := omega) only [I_aI_s, I_aI_n, I_aL, pk_us]
  · simp (disch := omega) only [I_aI_s, I_aI_n, I_aL, pk_us]
  · simp (disch := omega) only [I_aI_s, I_aI_n, I_aL, pk_us]
theorem ok_make0 (Γ : Ev) {σ : St} {p : Nat} (hp : p < 80) {v : Int64} {post : St → Prop} {thr : String → St → Prop} (h : ∀ σ', exM p σ σ' → rM σ' p (some (v, fun _ => (0, 1), 0, fun _ => (0, 0), 0)) → σ'.I 34 p = -1 → σ'.I 35 p = σ.I 35 p → post σ') : wp_M_make Γ (nI p) v (-1) σ post thr := by
  have ip : vp_in (nI p) 80 := vp_in_nI hp (by decide)
  have ep : (nI p).toNatClampNeg = p := nI_clamp (by omega)
  have lp : ∀ (r i : Nat) (σ1 : St), i + r = 8 → mkS σ σ1 p 0 i v (fun _ => (0, 1)) → wp_M_make_46 Γ post thr (r + 1) (nI p) (-1) (nI i) σ1 := by
    intro r
    induction r with
    | zero =>
      intro i σ1 hi hs
      obtain rfl : i = 8 := by omega
      refine ⟨fun _ => ⟨1, ip, fun _ => ⟨ip, ?_⟩, fun z => absurd (by rw [ep, hs.2.2.2.2.1]; decide) z⟩, fun z => absurd (by decide) z⟩
      obtain ⟨h1, h2, h3, h4, h5, h6, h7, h8⟩ := hs
      rw [ep]
      refine h _ (h1.tr (exM.I (by omega) (by omega))) ⟨?_, h3, h6, ?_, fun r hr => absurd hr (Nat.not_lt_zero _), ?_⟩ ?_ ?_
      all_goals simp (disch := omega) only [I_aI_s, I_aI_n, pk_us]
      · exact h2
      · exact h5
      · exact h4
      · exact h8
    | succ r ih =>
      intro i σ1 hi hs
      have i1 : vp_in (nI (8 * p + i)) 640 := vp_in_nI (by omega) (by decide)
      refine ⟨fun z => absurd z (nI_ge (a := i) (b := 8) (by omega) (by decide)), fun _ => ⟨fun z => absurd z (by decide), fun _ => ?_⟩⟩
      show vp_in ((8 : Int32) * nI p + nI i) 640 ∧ _
      rw [i8, nI_clamp (show 8 * p + i < 2 ^ 31 by omega)]
      refine ⟨i1, fun z => absurd z (by decide), fun _ => ?_⟩
      show vp_in (nI (8 * p + i)) 640 ∧ wp_M_make_46 Γ post thr (r + 1) (nI p) (-1) (nI i + 1) _
      rw [nI_clamp (show 8 * p + i < 2 ^ 31 by omega), nI_1]
      exact ⟨i1, ih (i + 1) _ (by omega) (hs.step (by omega))⟩
  refine ⟨ip, ip, ip, fun z => absurd z (by decide), fun _ => ⟨ip, 9, ?_⟩⟩
  rw [ep]
  exact lp 8 0 _ (by omega) mkS.start
