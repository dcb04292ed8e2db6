/-- parcel p's mortgages are f, all else is as before -/
def moS (σ0 σ : St) (p mn : Nat) (f : Nat → Int32 × Int32) : Prop := exM p σ0 σ ∧ (∀ r, r < mn → σ.I 31 (4 * p + r) = (f r).1 ∧ σ.I 32 (4 * p + r) = (f r).2) ∧ (∀ k, ¬ (k = 31 ∨ k = 32) → σ.I k = σ0.I k) ∧ σ.L = σ0.L
theorem ok_exch (Γ : Ev) {σ0 σ : St} {p mn r r' : Nat} {f : Nat → Int32 × Int32} {x1 x2 : Int32} (hp : p < 80) (hm : mn ≤ 4) (hr : r < mn) (hr' : r' < mn) (hne : r ≠ r') (h1 : x1 = nI (4 * p + r)) (h2 : x2 = nI (4 * p + r')) (hs : moS σ0 σ p mn f) {post : St → Prop} {thr : String → St → Prop} (h : ∀ σ', moS σ0 σ' p mn (fun t => if t = r then f r' else if t = r' then f r else f t) → post σ') : wp_M_exchange Γ x1 x2 σ post thr := by
  subst h1 h2
  obtain ⟨g, s1, s2, s3⟩ := hs
  have i1 : vp_in (nI (4 * p + r)) 320 := vp_in_nI (by omega) (by decide)
  have i2 : vp_in (nI (4 * p + r')) 320 := vp_in_nI (by omega) (by decide)
  refine ⟨i1, i1, i2, i1, i2, i1, i2, i2, ?_⟩
  rw [nI_clamp (by omega), nI_clamp (by omega)]
  refine h _ ⟨(((g.tr (exM.I31 (by omega))).tr (exM.I32 (by omega))).tr (exM.I31 (by omega))).tr (exM.I32 (by omega)), fun t ht => ?_, fun k hk => ?_, s3⟩
  · simp (disch := omega) only [I_aI_s, I_aI_n]
    by_cases e1 : t = r
    · subst e1
      rw [if_pos rfl]
      simp (disch := omega) only [pk_us, pk_un]
      exact s1 r' hr'
    · rw [if_neg e1]
      by_cases e2 : t = r'
      · subst e2
        rw [if_pos rfl]
        simp (disch := omega) only [pk_us, pk_un]
        exact s1 r hr
      · rw [if_neg e2]
        simp (disch := omega) only [pk_us, pk_un]
        exact s1 t ht
  · simp (disch := omega) only [I_aI_n]
    exact s2 k hk
theorem moS.eq {σ0 σ : St} {p mn : Nat} {f g : Nat → Int32 × Int32} (h : moS σ0 σ p mn f) (e : ∀ r, r < mn → f r = g r) : moS σ0 σ p mn g := ⟨h.1, fun r hr => by rw [← e r hr]; exact h.2.1 r hr, h.2.2⟩
theorem ok_carry (Γ : Ev) {σ : St} {p mn i j : Nat} {f : Nat → Int32 × Int32} (hp : p < 80) (hm : mn ≤ 4) (hi : i < mn) (hj : j < mn) (hf : ∀ r, r < mn → σ.I 31 (4 * p + r) = (f r).1 ∧ σ.I 32 (4 * p + r) = (f r).2) {post : St → Prop} {thr : String → St → Prop} (h : ∀ σ', moS σ σ' p mn (fun t => f (cyc i j t)) → post σ') : wp_M_carry Γ (nI p) (nI i) (nI j) σ post thr := by
  have m1 : ∀ r, 1 ≤ r → nI r + (-1) = nI (r - 1) := fun r hr => by rw [← nI_m1 hr, Int32.sub_eq_add_neg]
  have dn : ∀ (k r : Nat) (σ1 : St), (r = j + k ∨ (k = 0 ∧ r ≤ j)) → r ≤ i → r < mn → moS σ σ1 p mn (fun t => f (cyc i (if j < r then r else j) t)) → wp_M_carry_36 Γ post thr (k + 1) (nI p) (nI j) (nI r) σ1 := by
    intro k
    induction k with
    | zero =>
      intro r σ1 hr hri hrm hs
      have hle : r ≤ j := by omega
      rw [if_neg (by omega)] at hs
      exact ⟨fun _ => h σ1 hs, fun z => absurd (nI_le hle (by omega)) z⟩
    | succ k ih =>
      intro r σ1 hr hri hrm hs
      have hrj : j < r := by omega
      rw [if_pos hrj] at hs
      refine ⟨fun z => absurd z (nI_ge hrj (by omega)), fun _ => ?_⟩
      refine ok_exch Γ (r := r) (r' := r - 1) hp hm hrm (by omega) (by omega) i4 (by rw [i4, show (1 : Int32) = nI 1 from rfl, nI_subN (by omega)]; congr 1; omega) hs (fun σ' hs' => ?_)
      rw [m1 r (by omega)]
      refine ih (r - 1) σ' (by omega) (by omega) (by omega) (hs'.eq (fun t ht => ?_))
      have e : (if j < r - 1 then r - 1 else j) = r - 1 := by
        by_cases z : j < r - 1
        · rw [if_pos z]
        · rw [if_neg z]; omega
      rw [e]
      unfold cyc
      repeat' split
      all_goals first
        | rfl
        | (exfalso; omega)
        | (congr 1; omega)
  have up : ∀ (k r : Nat) (σ1 : St), (r + k = j ∨ (k = 0 ∧ j ≤ i)) → i ≤ r → r < mn → moS σ σ1 p mn (fun t => f (cyc i r t)) → (j ≤ i → r = i) → wp_M_carry_3 Γ post thr (k + 1) (nI p) (nI i) (nI j) (nI r) σ1 := by
    intro k
    induction k with
    | zero =>
      intro r σ1 hr hir hrm hs hji
      have hle : j ≤ r := by omega
      refine ⟨fun _ => ?_, fun z => absurd (nI_le hle (by omega)) z⟩
      by_cases hl : j ≤ i
      · have e := hji hl
        subst e
        refine ⟨r - j + 1, dn (r - j) r σ1 (by omega) (by omega) hrm (hs.eq (fun t ht => ?_))⟩
        by_cases z : j < r
        · rw [if_pos z]
        · rw [if_neg z, show j = r by omega]
      · obtain rfl : r = j := by omega
        refine ⟨1, ⟨fun _ => h σ1 hs, fun z => absurd (nI_le (by omega) (by omega)) z⟩⟩
    | succ k ih =>
      intro r σ1 hr hir hrm hs hji
      have hrj : r < j := by omega
      refine ⟨fun z => absurd z (nI_ge hrj (by omega)), fun _ => ?_⟩
      refine ok_exch Γ (r := r) (r' := r + 1) hp hm hrm (by omega) (by omega) i4 (by rw [i4, nI_1]; congr 1) hs (fun σ' hs' => ?_)
      rw [nI_1]
      refine ih (r + 1) σ' (by omega) (by omega) (by omega) (hs'.eq (fun t ht => ?_)) (by omega)
      unfold cyc
      repeat' split
      all_goals first
        | rfl
        | (exfalso; omega)
        | (congr 1; omega)
  refine ⟨j - i + 1, up (j - i) i σ (by omega) (Nat.le_refl _) hi ⟨exM.rf, fun r hr => ?_, fun _ _ => rfl, rfl⟩ (fun _ => rfl)⟩
  have e : cyc i i r = r := by
    unfold cyc
    repeat' split
    all_goals omega
  show _ = (f (cyc i i r)).1 ∧ _ = (f (cyc i i r)).2
  rw [e]
  exact hf r hr
