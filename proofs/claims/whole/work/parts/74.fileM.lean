/-! The reference's filing -/
set_option maxHeartbeats 4000000 in
theorem ok_fileM (Γ : Ev) {σ : St} {N T : Nat} {x2 x3 x4 x5 x6 x7 : Int32} (hN : σ.I 20 2 = nI N) (hT : σ.I 20 1 = nI T) (hN40 : N < 40) {post : Int32 → St → Prop} {thr : String → St → Prop}
    (h : ∀ σ2, (∀ k, ¬ (20 ≤ k ∧ k ≤ 27) → σ2.I k = σ.I k) → σ2.L = σ.L → σ2.Rf = σ.Rf → σ2.I 20 0 = 0 → σ2.I 20 1 = nI T → σ2.I 20 2 = nI (N + 1) → σ2.I 21 = upd (σ.I 21) N x3 → σ2.I 22 = upd (σ.I 22) N (nI T) → σ2.I 23 = upd (σ.I 23) N x2 → σ2.I 24 = upd (σ.I 24) N x4 → σ2.I 25 = upd (σ.I 25) N x5 → σ2.I 26 = upd (σ.I 26) N x6 → σ2.I 27 = upd (σ.I 27) N x7 → wp_M_look Γ (nI T) (nI T) σ2 (fun σ' => post (St.I σ' 20 2 - 1) σ') thr) : wp_M_file_35 Γ post thr x2 x3 x4 x5 x6 x7 0 σ := by
  have iN : vp_in (nI N) 40 := vp_in_nI hN40 (by decide)
  have eN : (nI N).toNatClampNeg = N := nI_clamp (by omega)
  unfold wp_M_file_35
  simp (disch := omega) only [I_aI_s, I_aI_n, pk_us, pk_un, hN, hT, eN]
  refine ⟨fun _ => ⟨iN, iN, iN, iN, iN, iN, iN, ?_⟩, fun z => absurd (by decide) z⟩
  refine h _ (fun k hk => ?_) rfl rfl ?_ ?_ ?_ ?_ ?_ ?_ ?_ ?_ ?_ ?_
  all_goals simp (disch := omega) only [I_aI_s, I_aI_n, pk_us, pk_un]
  · exact hT
  · exact nI_1 N
