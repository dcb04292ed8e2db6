def insA (f : Nat → Int32 × Int32) (i : Nat) (v : Int32 × Int32) (r : Nat) : Int32 × Int32 := if r < i then f r else if r = i then v else f (r - 1)
theorem nI_behind {m j : Nat} (h : j ≤ m + 1) : nI m - nI j + 1 = nI (m + 1 - j) := by
  rw [Int32.sub_eq_add_neg, Int32.add_assoc, Int32.add_comm (-nI j) 1, ← Int32.add_assoc, nI_1, ← Int32.sub_eq_add_neg, nI_subN h]
theorem nI_m1 {j : Nat} (h : 1 ≤ j) : nI j - 1 = nI (j - 1) := nI_subN (b := 1) h
set_option maxHeartbeats 4000000 in
theorem ok_add (Γ : Ev) {σ : St} {p m j : Nat} {mo : Nat → Int32 × Int32} {c am : Int32} (hp : p < 80) (hm : m ≤ 3) (h2 : σ.I 2 p = nI m) (hmo : ∀ r, r < m → σ.I (100 + p) r = (mo r).1 ∧ σ.I (200 + p) r = (mo r).2) (hj : 1 ≤ j) (hjm : j ≤ m + 1) {post : St → Prop} {thr : String → St → Prop}
    (h : ∀ σ', exA p σ σ' → σ'.I 2 p = nI (m + 1) → (∀ r, r < m + 1 → σ'.I (100 + p) r = (insA mo (j - 1) (c, am) r).1 ∧ σ'.I (200 + p) r = (insA mo (j - 1) (c, am) r).2) → σ'.L = σ.L → (∀ k, k ≤ 5 → k ≠ 2 → σ'.I k = σ.I k) → post σ') : wp_P_addMortgage Γ p (nI j) c am σ post thr := by
  unfold wp_P_addMortgage
  rw [h2, nI_behind hjm, nI_m1 hj, nI_clamp (show j - 1 < 2 ^ 31 by omega), nI_clamp (show j < 2 ^ 31 by omega), nI_clamp (show m + 1 - j < 2 ^ 31 by omega)]
  have a1 : ¬ nI (j - 1) < 0 := nI_pos (by omega)
  have a2 : ¬ nI j < 0 := nI_pos (by omega)
  have a3 : ¬ nI (m + 1 - j) < 0 := nI_pos (by omega)
  have a4 : vp_in (nI (j - 1)) 4 := vp_in_nI (by omega) (by decide)
  refine ⟨hp, a1, a2, a3, by omega, by omega, a1, a2, a3, by omega, by omega, a4, a4, ?_⟩
  refine h _ (((((exA.I1 hp).tr (exA.I2 hp)).tr (exA.I1 hp)).tr (exA.I2 hp)).tr (exA.I (by omega) (by omega))) ?_ (fun r hr => ⟨?_, ?_⟩) rfl (fun k hk hk2 => ?_)
  · simp (disch := omega) only [I_aI_s, I_aI_n, pk_us, pk_un]
    rw [h2, nI_1]
  · simp (disch := omega) only [I_aI_s, I_aI_n]
    unfold insA
    by_cases e1 : r < j - 1
    · rw [if_pos e1, pk_un (by omega), cpy_out (by omega)]
      exact (hmo r (by omega)).1
    · rw [if_neg e1]
      by_cases e2 : r = j - 1
      · rw [if_pos e2, e2, pk_us]
      · rw [if_neg e2, pk_un e2, cpy_in (by omega), show j - 1 + (r - j) = r - 1 by omega]
        exact (hmo (r - 1) (by omega)).1
  · simp (disch := omega) only [I_aI_s, I_aI_n]
    unfold insA
    by_cases e1 : r < j - 1
    · rw [if_pos e1, pk_un (by omega), cpy_out (by omega)]
      exact (hmo r (by omega)).2
    · rw [if_neg e1]
      by_cases e2 : r = j - 1
      · rw [if_pos e2, e2, pk_us]
      · rw [if_neg e2, pk_un e2, cpy_in (by omega), show j - 1 + (r - j) = r - 1 by omega]
        exact (hmo (r - 1) (by omega)).2
  · simp (disch := omega) only [I_aI_n]
set_option maxHeartbeats 4000000 in
theorem ok_drop (Γ : Ev) {σ : St} {p m j : Nat} {mo : Nat → Int32 × Int32} (hp : p < 80) (hm : m ≤ 4) (h2 : σ.I 2 p = nI m) (hmo : ∀ r, r < m → σ.I (100 + p) r = (mo r).1 ∧ σ.I (200 + p) r = (mo r).2) (hj : 1 ≤ j) (hjm : j ≤ m) {post : St → Prop} {thr : String → St → Prop}
    (h : ∀ σ', exA p σ σ' → σ'.I 2 p = nI (m - 1) → (∀ r, r < m - 1 → σ'.I (100 + p) r = (if r < j - 1 then mo r else mo (r + 1)).1 ∧ σ'.I (200 + p) r = (if r < j - 1 then mo r else mo (r + 1)).2) → σ'.L = σ.L → (∀ k, k ≤ 5 → k ≠ 2 → σ'.I k = σ.I k) → post σ') : wp_P_dropMortgage Γ p (nI j) σ post thr := by
  unfold wp_P_dropMortgage
  rw [h2, nI_subN hjm, nI_m1 hj, nI_clamp (show j - 1 < 2 ^ 31 by omega), nI_clamp (show j < 2 ^ 31 by omega), nI_clamp (show m - j < 2 ^ 31 by omega)]
  have a1 : ¬ nI (j - 1) < 0 := nI_pos (by omega)
  have a2 : ¬ nI j < 0 := nI_pos (by omega)
  have a3 : ¬ nI (m - j) < 0 := nI_pos (by omega)
  refine ⟨hp, a2, a1, a3, by omega, by omega, a2, a1, a3, by omega, by omega, ?_⟩
  refine h _ (((exA.I1 hp).tr (exA.I2 hp)).tr (exA.I (by omega) (by omega))) ?_ (fun r hr => ⟨?_, ?_⟩) rfl (fun k hk hk2 => ?_)
  · simp (disch := omega) only [I_aI_s, I_aI_n, pk_us, pk_un]
    rw [h2, nI_m1 (by omega)]
  · simp (disch := omega) only [I_aI_s, I_aI_n]
    by_cases e1 : r < j - 1
    · rw [if_pos e1, cpy_out (by omega)]
      exact (hmo r (by omega)).1
    · rw [if_neg e1, cpy_in (by omega), show j + (r - (j - 1)) = r + 1 by omega]
      exact (hmo (r + 1) (by omega)).1
  · simp (disch := omega) only [I_aI_s, I_aI_n]
    by_cases e1 : r < j - 1
    · rw [if_pos e1, cpy_out (by omega)]
      exact (hmo r (by omega)).2
    · rw [if_neg e1, cpy_in (by omega), show j + (r - (j - 1)) = r + 1 by omega]
      exact (hmo (r + 1) (by omega)).2
  · simp (disch := omega) only [I_aI_n]
