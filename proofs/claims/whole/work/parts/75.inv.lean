/-! What holds between two calls: the class's registers, the reference's registers -/
def dsOK (ds : Nat → Dd) (N T : Nat) : Prop := N ≤ 40 ∧ T ≤ 60 ∧ ∀ n, n < N → dOK (ds n) ∧ (ds n).rec ≤ 60 ∧ (ds n).fact ≤ 60
def IC (Γ : Ev) (σ : St) (ds : Nat → Dd) (N T : Nat) (V : Vw) : Prop := Γ.nd = N ∧ σ.I 0 0 = nI N ∧ σ.I 0 1 = nI T ∧ ordC Γ σ (ordL ds N 61) ∧ (∀ n, n < N → σ.Rf 0 n = some (Γ.ad (344 + n))) ∧ (∀ n, n < N → dC Γ σ n (ds n)) ∧ RC σ V.1 ∧ ∀ n, n < N → σ.I 9 n = V.2 n
def IM (σ : St) (ds : Nat → Dd) (N T : Nat) (V : Vw) : Prop := σ.I 20 1 = nI T ∧ σ.I 20 2 = nI N ∧ (∀ n, n < N → dM σ n (ds n)) ∧ RM σ V.1 ∧ ∀ n, n < N → σ.I 28 n = V.2 n
/-- the registers of the class, of the reference, are as before -/
def sameC (σ σ' : St) : Prop := (∀ k, (k < 20 ∨ 100 ≤ k) → σ'.I k = σ.I k) ∧ (∀ k, (k < 3 ∨ 100 ≤ k) → σ'.L k = σ.L k) ∧ σ'.Rf = σ.Rf
def sameM (σ σ' : St) : Prop := (∀ k, (20 ≤ k ∧ k ≤ 35) → σ'.I k = σ.I k) ∧ ∀ k, (3 ≤ k ∧ k ≤ 5) → σ'.L k = σ.L k
theorem keepN.C {σ σ' : St} (h : keepN σ σ') : sameC σ σ' := ⟨fun k hk => h.1 k (by omega), fun k hk => h.2.1 k (by omega), h.2.2⟩
theorem keepL.M {σ σ' : St} (h : keepL σ σ') : sameM σ σ' := ⟨fun k hk => h.1 k (by omega), fun k hk => h.2.1 k (by omega)⟩
theorem IC.same {Γ : Ev} {σ σ' : St} {ds : Nat → Dd} {N T : Nat} {V : Vw} (h : IC Γ σ ds N T V) (g : sameC σ σ') : IC Γ σ' ds N T V := by
  obtain ⟨h1, h2, h3, h4, h5, h6, h7, h8⟩ := h
  obtain ⟨g1, g2, g3⟩ := g
  refine ⟨h1, by rw [g1 0 (by omega)]; exact h2, by rw [g1 0 (by omega)]; exact h3, fun d n hd => by rw [g3]; exact h4 d n hd, fun n hn => by rw [g3]; exact h5 n hn, fun n hn => ?_, ⟨fun p hp => ?_, fun p hp => ?_⟩, fun n hn => by rw [g1 9 (by omega)]; exact h8 n hn⟩
  · obtain ⟨c1, c2, c3, c4, c5, c6, c7, c8, c9, c10⟩ := h6 n hn
    exact ⟨c1, c2, by rw [g1 6 (by omega)]; exact c3, by rw [g1 7 (by omega)]; exact c4, by rw [g1 8 (by omega)]; exact c5, by rw [g1 10 (by omega)]; exact c6, by rw [g1 11 (by omega)]; exact c7, by rw [g1 12 (by omega)]; exact c8, by rw [g1 13 (by omega)]; exact c9, by rw [g2 2 (by omega)]; exact c10⟩
  · exact rC_fr (by rw [g1 1 (by omega)]) (by rw [g2 1 (by omega)]) (g2 _ (by omega)) (by rw [g1 2 (by omega)]) (g1 _ (by omega)) (g1 _ (by omega)) (by rw [g1 3 (by omega)]) (h7.1 p hp)
  · rw [g1 4 (by omega), g1 5 (by omega)]; exact h7.2 p hp
theorem IM.same {σ σ' : St} {ds : Nat → Dd} {N T : Nat} {V : Vw} (h : IM σ ds N T V) (g : sameM σ σ') : IM σ' ds N T V := by
  obtain ⟨h1, h2, h3, h4, h5⟩ := h
  obtain ⟨g1, g2⟩ := g
  refine ⟨by rw [g1 20 (by omega)]; exact h1, by rw [g1 20 (by omega)]; exact h2, fun n hn => ?_, ⟨fun p hp => ?_, fun p hp => ?_⟩, fun n hn => by rw [g1 28 (by omega)]; exact h5 n hn⟩
  · obtain ⟨d1, d2, d3, d4, d5, d6, d7, d8⟩ := h3 n hn
    exact ⟨by rw [g1 21 (by omega)]; exact d1, by rw [g1 22 (by omega)]; exact d2, by rw [g1 23 (by omega)]; exact d3, by rw [g1 24 (by omega)]; exact d4, by rw [g1 25 (by omega)]; exact d5, by rw [g1 26 (by omega), g1 27 (by omega)]; exact d6, by rw [g1 26 (by omega)]; exact d7, by rw [g1 26 (by omega), g1 27 (by omega)]; exact d8⟩
  · have z := h4.1 p hp
    cases hA : V.1.1 p with
    | none => rw [hA] at z; show σ'.I 29 p = 0; rw [g1 29 (by omega)]; exact z
    | some x =>
      rw [hA] at z
      obtain ⟨x1, x2, x3, x4, x5, x6⟩ := z
      exact ⟨by rw [g1 29 (by omega)]; exact x1, by rw [g2 3 (by omega)]; exact x2, fun s hs => by rw [g2 4 (by omega), g2 5 (by omega)]; exact x3 s hs, by rw [g1 30 (by omega)]; exact x4, fun r hr => by rw [g1 31 (by omega), g1 32 (by omega)]; exact x5 r hr, by rw [g1 33 (by omega)]; exact x6⟩
  · rw [g1 34 (by omega), g1 35 (by omega)]; exact h4.2 p hp
