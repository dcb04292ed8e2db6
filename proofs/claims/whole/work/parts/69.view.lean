/-! A view of the register: the deeds in their order, each with its outcome -/
abbrev Vw : Type := Land × (Nat → Int32)
def A0 : Land := (fun _ => none, fun _ => (-1, -1))
def stepV (ds : Nat → Dd) (rc fc : Nat) (V : Vw) (n : Nat) : Vw :=
  if (ds n).rec ≤ rc ∧ (ds n).fact ≤ fc then (if hindA V.1 (ds n) = 0 then carryA V.1 n (ds n) else V.1, va_up V.2 n (nI (hindA V.1 (ds n)))) else V
def viewA (ds : Nat → Dd) (rc fc : Nat) (l : List Nat) : Vw := l.foldl (stepV ds rc fc) (A0, fun _ => -1)
/-- what holds of a view on the way -/
def okV (k : Nat) (V : Vw) (l : List Nat) : Prop := LB k V.1 ∧ ∀ m, m ∉ l → fresh V.1 m ∧ V.2 m = -1
theorem okV_0 : okV 1 (A0, fun _ => -1) [] := ⟨(fun p hp x hx => by cases hx), fun m _ => ⟨⟨rfl, rfl, rfl, rfl⟩, rfl⟩⟩
theorem okV_step {ds : Nat → Dd} {rc fc k n : Nat} {V : Vw} {l : List Nat} (hk : 0 < k) (h : okV k V l) (ho : dOK (ds n)) : okV (k + 1) (stepV ds rc fc V n) (l ++ [n]) := by
  unfold stepV
  by_cases hc : (ds n).rec ≤ rc ∧ (ds n).fact ≤ fc
  · rw [if_pos hc]
    refine ⟨?_, fun m hm => ?_⟩
    · by_cases h0 : hindA V.1 (ds n) = 0
      · show LB (k + 1) (if hindA V.1 (ds n) = 0 then _ else _)
        rw [if_pos h0]; exact LB_carry hk ho h0 h.1
      · show LB (k + 1) (if hindA V.1 (ds n) = 0 then _ else _)
        rw [if_neg h0]; exact h.1.up (by omega)
    · have hml : m ∉ l := fun z => hm (List.mem_append_left _ z)
      have hmn : m ≠ n := fun z => hm (List.mem_append_right _ (by rw [z]; exact List.mem_singleton.mpr rfl))
      obtain ⟨a, b⟩ := h.2 m hml
      refine ⟨?_, (va_up_ne _ _ hmn).trans b⟩
      show fresh (if hindA V.1 (ds n) = 0 then _ else _) m
      by_cases h0 : hindA V.1 (ds n) = 0
      · rw [if_pos h0]; exact fresh_carry hmn a
      · rw [if_neg h0]; exact a
  · rw [if_neg hc]
    exact ⟨h.1.up (by omega), fun m hm => h.2 m (fun z => hm (List.mem_append_left _ z))⟩
/-- the class's deeds, in the order of byFactDay -/
def ordC (Γ : Ev) (σ : St) (l : List Nat) : Prop := ∀ d n, l[d]? = some n → σ.Rf 1 d = some (Γ.ad (344 + n))
/-- registers that a look leaves -/
def keepL (σ σ' : St) : Prop := (∀ k, (k = 0 ∨ (6 ≤ k ∧ k < 100 ∧ k ≠ 9)) → σ'.I k = σ.I k) ∧ (∀ k, (k ≠ 1 ∧ k < 100) → σ'.L k = σ.L k) ∧ σ'.Rf = σ.Rf
theorem keepC.L' {σ σ' : St} (h : keepC σ σ') : keepL σ σ' := ⟨fun k hk => h.1 k (by omega), h.2⟩
theorem keepL.tr {σ σ1 σ2 : St} (h : keepL σ σ1) (h2 : keepL σ1 σ2) : keepL σ σ2 := ⟨fun k hk => (h2.1 k hk).trans (h.1 k hk), fun k hk => (h2.2.1 k hk).trans (h.2.1 k hk), h2.2.2.trans h.2.2⟩
theorem keepL.rf {σ : St} : keepL σ σ := ⟨fun _ _ => rfl, fun _ _ => rfl, rfl⟩
theorem keepL.o {σ : St} {n : Nat} {v : Int32} : keepL σ (St.sI σ 9 n v) := ⟨fun k hk => I_aI_n (by omega), fun _ _ => rfl, rfl⟩
theorem dC.keep {Γ : Ev} {σ σ' : St} {n : Nat} {d : Dd} (h : dC Γ σ n d) (g : keepL σ σ') : dC Γ σ' n d := by
  obtain ⟨h1, h2, h3, h4, h5, h6, h7, h8, h9, h10⟩ := h
  obtain ⟨g1, g2, -⟩ := g
  exact ⟨h1, h2, by rw [g1 6 (by omega)]; exact h3, by rw [g1 7 (by omega)]; exact h4, by rw [g1 8 (by omega)]; exact h5, by rw [g1 10 (by omega)]; exact h6, by rw [g1 11 (by omega)]; exact h7, by rw [g1 12 (by omega)]; exact h8, by rw [g1 13 (by omega)]; exact h9, by rw [g2 2 (by omega)]; exact h10⟩
theorem RC.o {σ : St} {A : Land} {n : Nat} {v : Int32} (h : RC σ A) : RC (St.sI σ 9 n v) A := by
  refine ⟨fun p hp => rC_fr (σ := σ) ?_ rfl rfl ?_ ?_ ?_ ?_ (h.1 p hp), fun p hp => ?_⟩
  all_goals simp (disch := omega) only [I_aI_n]
  exact h.2 p hp
theorem dOK_k {d : Dd} (h : dOK d) : d.k ≤ 8 := by
  obtain ⟨kd, ⟨rc, fc⟩, ⟨a, b, c⟩, e, f⟩ := d
  show kd ≤ 8
  match kd, h with
  | 0, _ => omega
  | 1, _ => omega
  | 2, _ => omega
  | 3, _ => omega
  | 4, _ => omega
  | 5, _ => omega
  | 6, _ => omega
  | 7, _ => omega
  | 8, _ => omega
  | _ + 9, h => exact False.elim h
theorem take_s {l : List Nat} {d n : Nat} (h : l[d]? = some n) : l.take (d + 1) = l.take d ++ [n] := by rw [List.take_succ, h]; rfl
theorem view_s {ds : Nat → Dd} {rc fc d n : Nat} {l : List Nat} (h : l[d]? = some n) : viewA ds rc fc (l.take (d + 1)) = stepV ds rc fc (viewA ds rc fc (l.take d)) n := by
  unfold viewA
  rw [take_s h, List.foldl_append]
  rfl
theorem view_ok {ds : Nat → Dd} {rc fc : Nat} {l : List Nat} (ho : ∀ n ∈ l, dOK (ds n)) : ∀ d, d ≤ l.length → okV (1 + d) (viewA ds rc fc (l.take d)) (l.take d) := by
  intro d
  induction d with
  | zero => intro _; exact okV_0
  | succ d ih =>
    intro hd
    have hn : l[d]? = some (l[d]'(by omega)) := List.getElem?_eq_getElem (by omega)
    rw [view_s hn, take_s hn]
    exact okV_step (k := 1 + d) (by omega) (ih (by omega)) (ho _ (List.getElem_mem _))
theorem living_le {P : Option Pd} {f : Pd → Nat} (h : ∀ x, f x ≤ 11) : living P f ≤ 11 := by
  cases P with
  | none => show (1 : Nat) ≤ 11; decide
  | some x => exact h x
theorem ite_le {c : Prop} [Decidable c] {a b n : Nat} (ha : a ≤ n) (hb : b ≤ n) : (if c then a else b) ≤ n := by
  by_cases h : c
  · rw [if_pos h]; exact ha
  · rw [if_neg h]; exact hb
theorem hind_le (A : Land) (d : Dd) : hindA A d ≤ 11 := by
  obtain ⟨kd, ⟨rc, fc⟩, ⟨a, b, c⟩, e, f⟩ := d
  match kd with
  | 0 => exact Nat.zero_le _
  | 1 => exact living_le (fun x => (ite_le (ite_le (by decide) (ite_le (by decide) (by decide))) (by decide)))
  | 2 => exact living_le (fun x => (ite_le (ite_le (by decide) (by decide)) (by decide)))
  | 3 => exact living_le (fun x => (ite_le (ite_le (ite_le (by decide) (by decide)) (by decide)) (by decide)))
  | 4 => exact living_le (fun x => (ite_le (by decide) (by decide)))
  | 5 => exact living_le (fun x => (ite_le (by decide) (by decide)))
  | 6 => exact living_le (fun x => (ite_le (by decide) (by decide)))
  | 7 => exact living_le (fun x => (ite_le (ite_le (by decide) (by decide)) (by decide)))
  | _ + 8 => exact living_le (fun x => living_le (fun y => (ite_le (ite_le (ite_le (by decide) (by decide)) (by decide)) (by decide))))
set_option maxHeartbeats 4000000 in
theorem ok_lookC (Γ : Ev) {σ : St} {ds : Nat → Dd} {l : List Nat} {rc fc : Nat} (hN : σ.I 0 0 = nI l.length) (hN40 : l.length ≤ 40) (ho : ordC Γ σ l) (hnd : l.Nodup) (hd : ∀ n ∈ l, dC Γ σ n (ds n) ∧ dOK (ds n) ∧ n < 40 ∧ (ds n).rec ≤ 60 ∧ (ds n).fact ≤ 60) (hrc : rc ≤ 60) (hfc : fc ≤ 60) {post : St → Prop} {thr : String → St → Prop}
    (h : ∀ σ', keepL σ σ' → RC σ' (viewA ds rc fc l).1 → (∀ n ∈ l, σ'.I 9 n = (viewA ds rc fc l).2 n) → post σ') : wp_LR_lookAt Γ (nI rc) (nI fc) σ post thr := by
  have main : ∀ (r d : Nat) (σ1 : St), d + r = l.length → keepL σ σ1 → RC σ1 (viewA ds rc fc (l.take d)).1 → (∀ n ∈ l.take d, σ1.I 9 n = (viewA ds rc fc (l.take d)).2 n) → wp_LR_lookAt_25 Γ post thr (r + 1) (nI rc) (nI fc) (nI d) σ1 := by
    intro r
    induction r with
    | zero =>
      intro d σ1 hdr hk hR hv
      have e : l.take d = l := List.take_of_length_le (by omega)
      rw [e] at hR hv
      refine ⟨fun _ => h σ1 hk hR hv, fun z => absurd ?_ z⟩
      rw [hk.1 0 (by omega), hN]
      exact nI_le (by omega) (by omega)
    | succ r ih =>
      intro d σ1 hdr hk hR hv
      have hlt : d < l.length := by omega
      have hn : l[d]? = some (l[d]'hlt) := List.getElem?_eq_getElem hlt
      have hmem : l[d]'hlt ∈ l := List.getElem_mem _
      generalize l[d]'hlt = n at hn hmem
      obtain ⟨hdc, hdo, hn40, hr60, hf60⟩ := hd n hmem
      have hdc1 := hdc.keep hk
      have hK : 2 ≤ Γ.K n ∧ Γ.K n ≤ 10 := by have := hdc.2.1; have := dOK_k hdo; omega
      have hfr : n ∉ l.take d := by
        have hs : (l.take (d + 1)).Nodup := hnd.sublist (List.take_sublist _ _)
        rw [take_s hn] at hs
        intro hm
        exact (List.nodup_append.mp hs).2.2 n hm n (List.mem_singleton.mpr rfl) rfl
      have hok := view_ok (ds := ds) (rc := rc) (fc := fc) (fun n hn => (hd n hn).2.1) d (by omega)
      refine ⟨fun z => absurd z (by rw [hk.1 0 (by omega), hN]; exact nI_ge (by omega) (by omega)), fun _ => ⟨vp_in_nI (by omega) (by decide), n, ?_, hdc.1, hK, ?_⟩⟩
      · rw [hk.2.2, nI_clamp (by omega)]; exact ho d n hn
      · have e7 : σ1.I 7 n = nI (ds n).rec := hdc1.2.2.2.1
        have e8 : σ1.I 8 n = nI (ds n).fact := hdc1.2.2.2.2.1
        rw [e7, e8]
        have q1 : nI rc < nI (ds n).rec ↔ rc < (ds n).rec := nI_ltI (by omega) (by omega)
        have q2 : nI (ds n).fact ≤ nI fc ↔ (ds n).fact ≤ fc := nI_leI (by omega) (by omega)
        have skip : ¬ ((ds n).rec ≤ rc ∧ (ds n).fact ≤ fc) → wp_LR_lookAt_59 Γ (fun x1 x2 x3 σ => wp_LR_lookAt_25 Γ post thr (r + 1) x1 x2 x3 σ) post thr (nI rc) (nI fc) (nI d) n σ1 := fun hno => by
          refine ⟨hdc.1, hK, ?_⟩
          show wp_LR_lookAt_25 Γ post thr (r + 1) (nI rc) (nI fc) (nI d + 1) _
          rw [nI_1]
          have ev : viewA ds rc fc (l.take (d + 1)) = viewA ds rc fc (l.take d) := by rw [view_s hn]; exact if_neg hno
          refine ih (d + 1) _ (by omega) (hk.tr keepL.o) (by rw [ev]; exact hR.o) (fun m hm => ?_)
          rw [ev]
          simp (disch := omega) only [I_aI_s]
          rw [take_s hn] at hm
          by_cases e : m = n
          · subst e; rw [pk_us]; exact (hok.2 m hfr).2.symm
          · rw [pk_un e]
            rcases List.mem_append.mp hm with w | w
            · exact hv m w
            · exact absurd (List.mem_singleton.mp w) e
        refine ⟨fun z => skip (by have := q1.mp z; omega), fun z => ⟨fun z2 => ?_, fun z2 => skip (fun w => z2 (q2.mpr w.2))⟩⟩
        have hyes : (ds n).rec ≤ rc ∧ (ds n).fact ≤ fc := ⟨by by_cases w : rc < (ds n).rec; exact absurd (q1.mpr w) z; omega, q2.mp z2⟩
        have ev : viewA ds rc fc (l.take (d + 1)) = (if hindA (viewA ds rc fc (l.take d)).1 (ds n) = 0 then carryA (viewA ds rc fc (l.take d)).1 n (ds n) else (viewA ds rc fc (l.take d)).1, va_up (viewA ds rc fc (l.take d)).2 n (nI (hindA (viewA ds rc fc (l.take d)).1 (ds n)))) := by rw [view_s hn]; exact if_pos hyes
        have ev2 : (viewA ds rc fc (l.take (d + 1))).2 = va_up (viewA ds rc fc (l.take d)).2 n (nI (hindA (viewA ds rc fc (l.take d)).1 (ds n))) := by rw [ev]
        refine ok_hindC Γ hR hok.1 (by omega) hdc1 hdo ?_
        have hh : hindA (viewA ds rc fc (l.take d)).1 (ds n) < 2 ^ 31 := Nat.lt_of_le_of_lt (hind_le _ _) (by decide)
        have out : ∀ σ2 : St, σ2.I 9 = upd (σ1.I 9) n (nI (hindA (viewA ds rc fc (l.take d)).1 (ds n))) → ∀ m ∈ l.take (d + 1), σ2.I 9 m = (viewA ds rc fc (l.take (d + 1))).2 m := fun σ2 e9 m hm => by
          rw [ev2, e9]
          rw [take_s hn] at hm
          by_cases e : m = n
          · subst e; rw [pk_us, va_up_self]
          · rw [pk_un e, va_up_ne _ _ e]
            rcases List.mem_append.mp hm with w | w
            · exact hv m w
            · exact absurd (List.mem_singleton.mp w) e
        have e9 : St.I (St.sI σ1 9 n (nI (hindA (viewA ds rc fc (l.take d)).1 (ds n)))) 9 n = nI (hindA (viewA ds rc fc (l.take d)).1 (ds n)) := by simp (disch := omega) only [I_aI_s, pk_us]
        rw [e9]
        have q3 : nI (hindA (viewA ds rc fc (l.take d)).1 (ds n)) = 0 ↔ hindA (viewA ds rc fc (l.take d)).1 (ds n) = 0 := nI_eq (b := 0) hh (by decide)
        refine ⟨fun w => ?_, fun w => ?_⟩
        · show wp_LR_lookAt_25 Γ post thr (r + 1) (nI rc) (nI fc) (nI d + 1) _
          rw [nI_1]
          refine ih (d + 1) _ (by omega) (hk.tr keepL.o) ?_ (out _ (by simp (disch := omega) only [I_aI_s]))
          rw [ev]
          show RC _ (if _ then _ else _)
          rw [if_neg (fun y => w (q3.mpr y))]
          exact hR.o
        · refine ok_carryC Γ hn40 hR.o hok.1 (by omega) (hdc1.keep keepL.o) hdo (hok.2 n hfr).1 (q3.mp w) (fun σ' hR' hk' => ?_)
          show wp_LR_lookAt_25 Γ post thr (r + 1) (nI rc) (nI fc) (nI d + 1) _
          rw [nI_1]
          refine ih (d + 1) _ (by omega) ((hk.tr keepL.o).tr hk'.L') ?_ (out _ (by rw [hk'.1 9 (by omega)]; simp (disch := omega) only [I_aI_s]))
          rw [ev]
          show RC _ (if _ then _ else _)
          rw [if_pos (q3.mp w)]
          exact hR'
  have un : ∀ (r i : Nat) (σ1 : St), i + r = 80 → keepL σ σ1 → (∀ p, p < i → σ1.I 1 p = 0 ∧ σ1.I 4 p = -1 ∧ σ1.I 5 p = -1) → wp_LR_lookAt_2 Γ post thr (r + 1) (nI rc) (nI fc) (nI i) σ1 := by
    intro r
    induction r with
    | zero =>
      intro i σ1 hi hk hv
      obtain rfl : i = 80 := by omega
      exact ⟨fun _ => ⟨l.length + 1, main l.length 0 σ1 (by omega) hk ⟨fun p hp => (hv p hp).1, fun p hp => (hv p hp).2⟩ (fun n hn => by cases hn)⟩, fun z => absurd (by decide) z⟩
    | succ r ih =>
      intro i σ1 hi hk hv
      refine ⟨fun z => absurd z (nI_ge (a := i) (b := 80) (by omega) (by decide)), fun _ => ⟨vp_in_nI (by omega) (by decide), ?_⟩⟩
      rw [nI_clamp (by omega), nI_1]
      refine ⟨by omega, ih (i + 1) _ (by omega) (hk.tr (((keepC.I (by omega)).tr (keepC.I (by omega))).tr (keepC.I (by omega))).L') (fun p hp => ?_)⟩
      simp (disch := omega) only [I_aI_s, I_aI_n]
      by_cases e : p = i
      · subst e; rw [pk_us, pk_us, pk_us]; exact ⟨rfl, rfl, rfl⟩
      · rw [pk_un e, pk_un e, pk_un e]; exact hv p (by omega)
  exact ⟨81, un 80 0 σ (by omega) keepL.rf (fun p hp => absurd hp (Nat.not_lt_zero _))⟩
