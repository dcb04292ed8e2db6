/-! The reference's look -/
def keepN (σ σ' : St) : Prop := (∀ k, ¬ (28 ≤ k ∧ k ≤ 35) → σ'.I k = σ.I k) ∧ (∀ k, ¬ (3 ≤ k ∧ k ≤ 5) → σ'.L k = σ.L k) ∧ σ'.Rf = σ.Rf
theorem keepN.tr {σ σ1 σ2 : St} (h : keepN σ σ1) (h2 : keepN σ1 σ2) : keepN σ σ2 := ⟨fun k hk => (h2.1 k hk).trans (h.1 k hk), fun k hk => (h2.2.1 k hk).trans (h.2.1 k hk), h2.2.2.trans h.2.2⟩
theorem keepN.rf {σ : St} : keepN σ σ := ⟨fun _ _ => rfl, fun _ _ => rfl, rfl⟩
theorem keepN.I {σ : St} {k : Nat} {f : Nat → Int32} (h : 28 ≤ k ∧ k ≤ 35) : keepN σ (σ.aI k f) := ⟨fun j hj => I_aI_n (fun z => hj (z ▸ h)), fun _ _ => rfl, rfl⟩
theorem keepM.N {σ σ' : St} (h : keepM σ σ') : keepN σ σ' := ⟨fun k hk => h.1 k (by omega), h.2⟩
theorem dM.keep {σ σ' : St} {n : Nat} {d : Dd} (h : dM σ n d) (g : keepN σ σ') : dM σ' n d := by
  obtain ⟨h1, h2, h3, h4, h5, h6, h7, h8⟩ := h
  obtain ⟨g1, -, -⟩ := g
  exact ⟨by rw [g1 21 (by omega)]; exact h1, by rw [g1 22 (by omega)]; exact h2, by rw [g1 23 (by omega)]; exact h3, by rw [g1 24 (by omega)]; exact h4, by rw [g1 25 (by omega)]; exact h5, by rw [g1 26 (by omega), g1 27 (by omega)]; exact h6, by rw [g1 26 (by omega)]; exact h7, by rw [g1 26 (by omega), g1 27 (by omega)]; exact h8⟩
theorem RM.o {σ : St} {A : Land} {n : Nat} {v : Int32} (h : RM σ A) : RM (St.sI σ 28 n v) A := by
  refine ⟨fun p hp => ?_, fun p hp => ?_⟩
  · have z := h.1 p hp
    cases hA : A.1 p with
    | none =>
      rw [hA] at z
      show St.I (St.sI σ 28 n v) 29 p = 0
      simp (disch := omega) only [I_aI_n]; exact z
    | some x =>
      rw [hA] at z
      obtain ⟨x1, x2, x3, x4, x5, x6⟩ := z
      refine ⟨?_, x2, x3, ?_, fun r hr => ?_, ?_⟩
      all_goals simp (disch := omega) only [I_aI_n]
      · exact x1
      · exact x4
      · exact x5 r hr
      · exact x6
  · simp (disch := omega) only [I_aI_n]; exact h.2 p hp
set_option maxHeartbeats 4000000 in
theorem ok_lookM (Γ : Ev) {σ : St} {ds : Nat → Dd} {N rc fc : Nat} (hN : σ.I 20 2 = nI N) (hN40 : N ≤ 40) (hlen : (ordL ds N 61).length ≤ 40) (hd : ∀ n, n < N → dM σ n (ds n) ∧ dOK (ds n) ∧ (ds n).rec ≤ 60 ∧ (ds n).fact ≤ 60) (hrc : rc ≤ 60) (hfc : fc ≤ 60) {post : St → Prop} {thr : String → St → Prop}
    (h : ∀ σ', keepN σ σ' → RM σ' (viewA ds rc fc (ordL ds N 61)).1 → (∀ n, n < N → σ'.I 28 n = (viewA ds rc fc (ordL ds N 61)).2 n) → post σ') : wp_M_look Γ (nI rc) (nI fc) σ post thr := by
  have inner : ∀ (f : Nat), f ≤ fc → ∀ (k60 : Int32 → Int32 → Int32 → St → Prop), (∀ σ1, keepN σ σ1 → RM σ1 (viewA ds rc fc (ordL ds N (f + 1))).1 → (∀ n, n < N → σ1.I 28 n = (viewA ds rc fc (ordL ds N (f + 1))).2 n) → k60 (nI rc) (nI fc) (nI f + 1) σ1) →
      ∀ (r n : Nat) (σ1 : St), n + r = N → keepN σ σ1 → RM σ1 (viewA ds rc fc (ordL ds N f ++ dayL ds n f)).1 → (∀ m, m < N → σ1.I 28 m = (viewA ds rc fc (ordL ds N f ++ dayL ds n f)).2 m) → wp_M_look_68 Γ k60 post thr (r + 1) (nI rc) (nI fc) (nI f) (nI n) σ1 := by
    intro f hf k60 hk60 r
    induction r with
    | zero =>
      intro n σ1 hnr hk hR hv
      obtain rfl : n = N := by omega
      exact ⟨fun _ => hk60 σ1 hk hR hv, fun z => absurd (by rw [hk.1 20 (by omega), hN]; exact nI_le (Nat.le_refl _) (by omega)) z⟩
    | succ r ih =>
      intro n σ1 hnr hk hR hv
      have hnN : n < N := by omega
      obtain ⟨hdm, hdo, hr60, hf60⟩ := hd n hnN
      have hdm1 := hdm.keep hk
      have i40 : vp_in (nI n) 40 := vp_in_nI (by omega) (by decide)
      have en : (nI n).toNatClampNeg = n := nI_clamp (by omega)
      have q1 : nI (ds n).fact = nI f ↔ (ds n).fact = f := nI_eq (by omega) (by omega)
      have q2 : nI rc < nI (ds n).rec ↔ rc < (ds n).rec := nI_ltI (by omega) (by omega)
      have next : ∀ σ2, keepN σ σ2 → RM σ2 (viewA ds rc fc (ordL ds N f ++ dayL ds (n + 1) f)).1 → (∀ m, m < N → σ2.I 28 m = (viewA ds rc fc (ordL ds N f ++ dayL ds (n + 1) f)).2 m) → wp_M_look_128 Γ k60 (fun x1 x2 x3 x4 σ => wp_M_look_68 Γ k60 post thr (r + 1) x1 x2 x3 x4 σ) post thr (nI rc) (nI fc) (nI f) (nI n) σ2 := fun σ2 a b c => by
        show wp_M_look_68 Γ k60 post thr (r + 1) (nI rc) (nI fc) (nI f) (nI n + 1) σ2
        rw [nI_1]
        exact ih (n + 1) σ2 (by omega) a b c
      refine ⟨fun z => absurd z (by rw [hk.1 20 (by omega), hN]; exact nI_ge (by omega) (by omega)), fun _ => ⟨i40, ?_⟩⟩
      rw [en, show σ1.I 23 n = nI (ds n).fact from hdm1.2.2.1, show σ1.I 22 n = nI (ds n).rec from hdm1.2.1]
      refine ⟨fun z => ?_, fun z => ⟨i40, fun z2 => ?_, fun z2 => ?_⟩⟩
      · have e : dayL ds (n + 1) f = dayL ds n f := by rw [dayL_s, if_neg (fun w => z (q1.mpr w)), List.append_nil]
        exact next σ1 hk (by rw [e]; exact hR) (by rw [e]; exact hv)
      · have e : dayL ds (n + 1) f = dayL ds n f ++ [n] := by rw [dayL_s, if_pos (q1.mp z)]
        have ev : viewA ds rc fc (ordL ds N f ++ dayL ds (n + 1) f) = viewA ds rc fc (ordL ds N f ++ dayL ds n f) := by
          rw [e, ← List.append_assoc, view_app]
          exact if_neg (by have := q2.mp z2; omega)
        exact next σ1 hk (by rw [ev]; exact hR) (by rw [ev]; exact hv)
      · have hff := q1.mp z
        have hrr : (ds n).rec ≤ rc := by
          by_cases w : rc < (ds n).rec
          · exact absurd (q2.mpr w) z2
          · omega
        have e : dayL ds (n + 1) f = dayL ds n f ++ [n] := by rw [dayL_s, if_pos hff]
        have hmem : ∀ m ∈ ordL ds N f ++ dayL ds n f, dOK (ds m) := fun m hm => by
          rcases List.mem_append.mp hm with w | w
          · exact (hd m (ordL_mem.mp w).1).2.1
          · exact (hd m (by have := (dayL_mem.mp w).1; omega)).2.1
        have hok := view_okL (ds := ds) (rc := rc) (fc := fc) _ hmem
        have hL1 : (ordL ds N f ++ dayL ds n f).length ≤ 40 := by
          have a1 := ordL_le (ds := ds) (N := N) (F := f + 1) (G := 61) (by omega)
          have a2 := dayL_le (ds := ds) (f := f) (show n ≤ N by omega)
          have a3 : (ordL ds N (f + 1)).length = (ordL ds N f).length + (dayL ds N f).length := List.length_append
          rw [List.length_append]
          omega
        have hfr : n ∉ ordL ds N f ++ dayL ds n f := fun hm => by
          rcases List.mem_append.mp hm with w | w
          · have := (ordL_mem.mp w).2; omega
          · have := (dayL_mem.mp w).1; omega
        have ev : viewA ds rc fc (ordL ds N f ++ dayL ds (n + 1) f) = stepV ds rc fc (viewA ds rc fc (ordL ds N f ++ dayL ds n f)) n := by
          rw [e, ← List.append_assoc, view_app]
          rfl
        generalize viewA ds rc fc (ordL ds N f ++ dayL ds n f) = V at hR hv hok ev
        have ev1 : stepV ds rc fc V n = (if hindA V.1 (ds n) = 0 then carryA V.1 n (ds n) else V.1, va_up V.2 n (nI (hindA V.1 (ds n)))) := if_pos ⟨hrr, by omega⟩
        rw [ev1] at ev
        have hh : hindA V.1 (ds n) < 2 ^ 31 := Nat.lt_of_le_of_lt (hind_le _ _) (by decide)
        have q3 : nI (hindA V.1 (ds n)) = 0 ↔ hindA V.1 (ds n) = 0 := nI_eq (b := 0) hh (by decide)
        refine ok_reasonM Γ (by omega) hR hok.1 (by omega) hdm1 hdo ⟨i40, i40, ?_⟩
        rw [show St.I (St.sI σ1 28 n (nI (hindA V.1 (ds n)))) 28 n = nI (hindA V.1 (ds n)) by simp (disch := omega) only [I_aI_s, pk_us]]
        have out : ∀ σ2 : St, σ2.I 28 = upd (σ1.I 28) n (nI (hindA V.1 (ds n))) → ∀ m, m < N → σ2.I 28 m = (viewA ds rc fc (ordL ds N f ++ dayL ds (n + 1) f)).2 m := fun σ2 e9 m hm => by
          rw [ev, e9]
          show _ = va_up V.2 n _ m
          by_cases w : m = n
          · subst w; rw [pk_us, va_up_self]
          · rw [pk_un w, va_up_ne _ _ w]; exact hv m hm
        refine ⟨fun w => next _ (hk.tr (keepN.I (by omega))) ?_ (out _ (by simp (disch := omega) only [I_aI_s])), fun w => ok_doesM Γ (by omega) hR.o hok.1 (by omega) (hdm1.keep (keepN.I (by omega))) hdo (hok.2 n hfr).1 (q3.mp w) (fun σ' hR' hk' => next _ ((hk.tr (keepN.I (by omega))).tr hk'.N) ?_ (out _ (by rw [hk'.1 28 (by omega)]; simp (disch := omega) only [I_aI_s])))⟩
        · rw [ev]
          show RM _ (if _ then _ else _)
          rw [if_neg (fun y => w (q3.mpr y))]
          exact hR.o
        · rw [ev]
          show RM _ (if _ then _ else _)
          rw [if_pos (q3.mp w)]
          exact hR'
  have outer : ∀ (r f : Nat) (σ1 : St), f + r = fc + 1 → keepN σ σ1 → RM σ1 (viewA ds rc fc (ordL ds N f)).1 → (∀ m, m < N → σ1.I 28 m = (viewA ds rc fc (ordL ds N f)).2 m) → wp_M_look_60 Γ post thr (r + 1) (nI rc) (nI fc) (nI f) σ1 := by
    intro r
    induction r with
    | zero =>
      intro f σ1 hfr hk hR hv
      obtain rfl : f = fc + 1 := by omega
      rw [← view_late 61 (by omega)] at hR hv
      exact ⟨fun _ => h σ1 hk hR hv, fun z => absurd (nI_lt (by omega) (by omega)) z⟩
    | succ r ih =>
      intro f σ1 hfr hk hR hv
      refine ⟨fun z => absurd z (nI_nlt (by omega) (by omega)), fun _ => ⟨N + 1, ?_⟩⟩
      refine inner f (by omega) _ (fun σ2 a b c => by rw [nI_1]; exact ih (f + 1) σ2 (by omega) a b c) N 0 σ1 (by omega) hk ?_ ?_
      · rw [show dayL ds 0 f = [] from rfl, List.append_nil]; exact hR
      · rw [show dayL ds 0 f = [] from rfl, List.append_nil]; exact hv
  have st : ∀ (r i : Nat) (σ1 : St), i + r = N → keepN σ σ1 → RM σ1 A0 → (∀ m, m < i → σ1.I 28 m = -1) → wp_M_look_37 Γ post thr (r + 1) (nI rc) (nI fc) (nI i) σ1 := by
    intro r
    induction r with
    | zero =>
      intro i σ1 hi hk hR hv
      obtain rfl : i = N := by omega
      exact ⟨fun _ => ⟨fc + 2, outer (fc + 1) 0 σ1 (by omega) hk hR hv⟩, fun z => absurd (by rw [hk.1 20 (by omega), hN]; exact nI_le (Nat.le_refl _) (by omega)) z⟩
    | succ r ih =>
      intro i σ1 hi hk hR hv
      refine ⟨fun z => absurd z (by rw [hk.1 20 (by omega), hN]; exact nI_ge (by omega) (by omega)), fun _ => ⟨vp_in_nI (by omega) (by decide), ?_⟩⟩
      rw [nI_clamp (by omega), nI_1]
      refine ih (i + 1) _ (by omega) (hk.tr (keepN.I (by omega))) hR.o (fun m hm => ?_)
      simp (disch := omega) only [I_aI_s]
      by_cases w : m = i
      · subst w; rw [pk_us]
      · rw [pk_un w]; exact hv m (by omega)
  have un : ∀ (r i : Nat) (σ1 : St), i + r = 80 → keepN σ σ1 → (∀ p, p < i → σ1.I 29 p = 0 ∧ σ1.I 34 p = -1 ∧ σ1.I 35 p = -1) → wp_M_look_2 Γ post thr (r + 1) (nI rc) (nI fc) (nI i) σ1 := by
    intro r
    induction r with
    | zero =>
      intro i σ1 hi hk hv
      obtain rfl : i = 80 := by omega
      exact ⟨fun _ => ⟨N + 1, st N 0 σ1 (by omega) hk ⟨fun p hp => (hv p hp).1, fun p hp => (hv p hp).2⟩ (fun m hm => absurd hm (Nat.not_lt_zero _))⟩, fun z => absurd (by decide) z⟩
    | succ r ih =>
      intro i σ1 hi hk hv
      have iv : vp_in (nI i) 80 := vp_in_nI (by omega) (by decide)
      refine ⟨fun z => absurd z (nI_ge (a := i) (b := 80) (by omega) (by decide)), fun _ => ⟨iv, iv, iv, ?_⟩⟩
      rw [nI_clamp (by omega), nI_1]
      refine ih (i + 1) _ (by omega) (((hk.tr (keepN.I (by omega))).tr (keepN.I (by omega))).tr (keepN.I (by omega))) (fun p hp => ?_)
      simp (disch := omega) only [I_aI_s, I_aI_n]
      by_cases e : p = i
      · subst e; rw [pk_us, pk_us, pk_us]; exact ⟨rfl, rfl, rfl⟩
      · rw [pk_un e, pk_un e, pk_un e]; exact hv p (by omega)
  exact ⟨81, un 80 0 σ (by omega) keepN.rf (fun p hp => absurd hp (Nat.not_lt_zero _))⟩
