/-! The class's filing: the new deed comes to its place in the order -/
set_option maxHeartbeats 4000000 in
theorem ok_fileC (Γ : Ev) {σ : St} {ds : Nat → Dd} {N T f0 : Nat} {pre tl : List Nat} (hN : σ.I 0 0 = nI N) (hT : σ.I 0 1 = nI T) (hN40 : N < 40) (hnd : Γ.nd = N + 1) (hK : 2 ≤ Γ.K N ∧ Γ.K N ≤ 10) (hord : ordC Γ σ (pre ++ tl)) (hlen : (pre ++ tl).length = N)
    (hold : ∀ n ∈ pre ++ tl, n < N ∧ dC Γ σ n (ds n) ∧ dOK (ds n) ∧ (ds n).fact ≤ 60) (hpre : ∀ n ∈ pre, (ds n).fact ≤ f0) (htl : ∀ n ∈ tl, f0 < (ds n).fact) (hf0 : f0 ≤ 60) {post : Int32 → St → Prop} {thr : String → St → Prop}
    (h : ∀ σ2, (∀ k, ¬ (k = 0 ∨ (6 ≤ k ∧ k ≤ 8)) → σ2.I k = σ.I k) → σ2.L = σ.L → σ2.I 6 = upd (σ.I 6) N (nI N) → σ2.I 7 = upd (σ.I 7) N (nI T) → σ2.I 8 = upd (σ.I 8) N (nI f0) → σ2.I 0 0 = nI (N + 1) → σ2.I 0 1 = nI T → ordC Γ σ2 (pre ++ ([N] ++ tl)) → σ2.Rf 0 = va_up (σ.Rf 0) N (some (Γ.ad (344 + N))) → wp_LR_lookAt Γ (nI T) (nI T) σ2 (fun σ' => post (nI N) σ') thr) : wp_LR_file Γ (nI f0) N σ post thr := by
  have hnN : N < Γ.nd := by omega
  refine ⟨hnN, hK, by rw [hN]; exact vp_in_nI hN40 (by decide), ?_⟩
  rw [hN, nI_clamp (by omega)]
  rw [show St.I (St.sI σ 6 N (nI N)) 0 1 = nI T by simp (disch := omega) only [I_aI_n]; exact hT]
  have lp : ∀ (r j : Nat) (σ1 : St), j = pre.length + r → j ≤ N → (∀ k, ¬ (6 ≤ k ∧ k ≤ 8) → σ1.I k = σ.I k) → σ1.L = σ.L → σ1.I 6 = upd (σ.I 6) N (nI N) → σ1.I 7 = upd (σ.I 7) N (nI T) → σ1.I 8 = upd (σ.I 8) N (nI f0) → σ1.Rf 0 = va_up (σ.Rf 0) N (some (Γ.ad (344 + N))) →
      (∀ d, d < j → ∀ n, (pre ++ tl)[d]? = some n → σ1.Rf 1 d = some (Γ.ad (344 + n))) → (∀ d, j ≤ d → ∀ n, (pre ++ tl)[d]? = some n → σ1.Rf 1 (d + 1) = some (Γ.ad (344 + n))) → wp_LR_file_33 Γ post thr (r + 1) (nI f0) N (nI N) (nI j) σ1 := by
    intro r
    induction r with
    | zero =>
      intro j σ1 hj hjN kI kL k6 k7 k8 kR lo hi
      have hj : j = pre.length := by omega
      have fin : wp_LR_file_76 Γ post thr N (nI N) (nI j) σ1 := by
        refine ⟨hnN, hK, vp_in_nI (by omega) (by decide), ?_⟩
        rw [nI_clamp (by omega)]
        have e0 : St.I (St.aR σ1 1 (va_up (St.Rf σ1 1) j (some (Γ.ad (344 + N))))) 0 0 = nI N := by rw [I_aR, kI 0 (by omega)]; exact hN
        rw [e0, nI_1]
        have e1 : St.I (St.sI (St.aR σ1 1 (va_up (St.Rf σ1 1) j (some (Γ.ad (344 + N))))) 0 0 (nI (N + 1))) 0 1 = nI T := by rw [I_aI_s, pk_un (by decide), I_aR, kI 0 (by omega)]; exact hT
        rw [e1]
        refine h _ (fun k hk => ?_) kL ?_ ?_ ?_ ?_ e1 (fun d n hd => ?_) ?_
        · rw [I_aI_n (by omega), I_aR]; exact kI k (by omega)
        · rw [I_aI_n (by omega), I_aR]; exact k6
        · rw [I_aI_n (by omega), I_aR]; exact k7
        · rw [I_aI_n (by omega), I_aR]; exact k8
        · rw [I_aI_s, pk_us]
        · show va_up σ1.Rf 1 (va_up (St.Rf σ1 1) j (some (Γ.ad (344 + N)))) 1 d = _
          rw [va_up_self]
          by_cases c1 : d < pre.length
          · rw [va_up_ne _ _ (by omega)]
            rw [List.getElem?_append_left c1] at hd
            exact lo d (by omega) n (by rw [List.getElem?_append_left c1]; exact hd)
          · rw [List.getElem?_append_right (by omega)] at hd
            by_cases c2 : d = j
            · subst c2
              rw [va_up_self]
              rw [show d - pre.length = 0 by omega] at hd
              cases hd
              rfl
            · rw [va_up_ne _ _ c2]
              obtain ⟨q, hq⟩ : ∃ q, d = pre.length + q + 1 := ⟨d - pre.length - 1, by omega⟩
              subst hq
              rw [show pre.length + q + 1 - pre.length = q + 1 by omega] at hd
              exact hi (pre.length + q) (by omega) n (by rw [List.getElem?_append_right (by omega), show pre.length + q - pre.length = q by omega]; exact hd)
        · simp (disch := omega) only [R_aI, R_aR_n]; exact kR
      refine ⟨hnN, hK, fun _ => fin, fun z => ?_⟩
      have j0 : 0 < j := by
        by_cases w : j = 0
        · rw [w] at z; exact absurd (by decide) z
        · omega
      have hlt : j - 1 < (pre ++ tl).length := by omega
      have hg : (pre ++ tl)[j - 1]? = some ((pre ++ tl)[j - 1]'hlt) := List.getElem?_eq_getElem hlt
      have hm : (pre ++ tl)[j - 1]'hlt ∈ pre := by
        rw [List.getElem_append_left (by omega)]; exact List.getElem_mem _
      generalize (pre ++ tl)[j - 1]'hlt = n at hg hm
      obtain ⟨n1, n2, n3, n4⟩ := hold n (List.mem_append_left _ hm)
      rw [nI_m1 j0, nI_clamp (by omega)]
      refine ⟨vp_in_nI (by omega) (by decide), n, lo (j - 1) (by omega) n hg, by omega, by have := n2.2.1; have := dOK_k n3; omega, fun _ => fin, fun w => absurd ?_ w⟩
      rw [k8, pk_un (by omega), n2.2.2.2.2.1]
      exact nI_le (hpre n hm) (by omega)
    | succ r ih =>
      intro j σ1 hj hjN kI kL k6 k7 k8 kR lo hi
      have j0 : 0 < j := by omega
      have hlt : j - 1 < (pre ++ tl).length := by omega
      have hg : (pre ++ tl)[j - 1]? = some ((pre ++ tl)[j - 1]'hlt) := List.getElem?_eq_getElem hlt
      have hm : (pre ++ tl)[j - 1]'hlt ∈ tl := by
        rw [List.getElem_append_right (by omega)]; exact List.getElem_mem _
      generalize (pre ++ tl)[j - 1]'hlt = n at hg hm
      obtain ⟨n1, n2, n3, n4⟩ := hold n (List.mem_append_right _ hm)
      have nK : 2 ≤ Γ.K n ∧ Γ.K n ≤ 10 := by have := n2.2.1; have := dOK_k n3; omega
      refine ⟨hnN, hK, fun z => absurd z (nI_nle j0 (by omega)), fun _ => ?_⟩
      rw [nI_m1 j0, nI_clamp (show j - 1 < 2 ^ 31 by omega), nI_clamp (show j < 2 ^ 31 by omega)]
      have ij : vp_in (nI (j - 1)) 40 := vp_in_nI (by omega) (by decide)
      refine ⟨ij, n, lo (j - 1) (by omega) n hg, by omega, nK, fun w => absurd w ?_, fun _ => ⟨ij, n, lo (j - 1) (by omega) n hg, by omega, nK, vp_in_nI (by omega) (by decide), ?_⟩⟩
      · rw [k8, pk_un (by omega), n2.2.2.2.2.1]
        exact nI_ge (htl n hm) (by omega)
      · rw [show nI j + (-1) = nI (j - 1) by rw [← nI_m1 j0, Int32.sub_eq_add_neg]]
        refine ih (j - 1) _ (by omega) (by omega) kI kL k6 k7 k8 ?_ (fun d hd m hm1 => ?_) (fun d hd m hm1 => ?_)
        · simp (disch := omega) only [R_aR_n]; exact kR
        · show va_up σ1.Rf 1 (va_up (St.Rf σ1 1) j _) 1 d = _
          rw [va_up_self, va_up_ne _ _ (by omega)]
          exact lo d (by omega) m hm1
        · show va_up σ1.Rf 1 (va_up (St.Rf σ1 1) j _) 1 (d + 1) = _
          rw [va_up_self]
          by_cases c : d = j - 1
          · rw [show d + 1 = j by omega, va_up_self]
            rw [c, hg] at hm1
            cases hm1
            rfl
          · rw [va_up_ne _ _ (by omega)]
            exact hi d (by omega) m hm1
  refine ⟨tl.length + 1, lp tl.length N _ (by rw [List.length_append] at hlen; omega) (Nat.le_refl _) (fun k hk => ?_) rfl ?_ ?_ ?_ ?_ (fun d hd n hn => ?_) (fun d hd n hn => ?_)⟩
  · simp (disch := omega) only [I_aR, I_aI_n]
  · simp (disch := omega) only [I_aR, I_aI_n, I_aI_s]
  · simp (disch := omega) only [I_aR, I_aI_n, I_aI_s]
  · simp (disch := omega) only [I_aR, I_aI_n, I_aI_s]
  · simp (disch := omega) only [R_aR_s, R_aI]
  · simp (disch := omega) only [R_aR_n, R_aI]
    exact hord d n hn
  · have := (List.getElem?_eq_some_iff.mp hn).1
    omega
