set_option maxHeartbeats 4000000 in
theorem ok_makeL (Γ : Ev) {σ : St} {p q : Nat} {x : Pd} (hp : p < 80) (hq : q < 80) (hne : q ≠ p) (hx : mD σ q x) (hm : x.mn ≤ 4) {v : Int64} {post : St → Prop} {thr : String → St → Prop} (h : ∀ σ', exM p σ σ' → rM σ' p (some (v, x.sh, x.mn, x.mo, 0)) → σ'.I 34 p = nI q → σ'.I 35 p = σ.I 35 p → post σ') : wp_M_make Γ (nI p) v (nI q) σ post thr := by
  have ip : vp_in (nI p) 80 := vp_in_nI hp (by decide)
  have iq : vp_in (nI q) 80 := vp_in_nI hq (by decide)
  have ep : (nI p).toNatClampNeg = p := nI_clamp (by omega)
  have eq : (nI q).toNatClampNeg = q := nI_clamp (by omega)
  have q0 : 0 ≤ nI q := nI_pos' (by omega)
  have lp2 : ∀ (r i : Nat) (σ1 : St), i + r = x.mn → mkS σ σ1 p x.mn 8 v x.sh → (∀ t, t < i → σ1.I 31 (4 * p + t) = (x.mo t).1 ∧ σ1.I 32 (4 * p + t) = (x.mo t).2) → wp_M_make_130 Γ post thr (r + 1) (nI p) (nI q) (nI i) σ1 := by
    intro r
    induction r with
    | zero =>
      intro i σ1 hi hs ht
      obtain rfl : i = x.mn := by omega
      obtain ⟨h1, h2, h3, h4, h5, h6, h7, h8⟩ := hs
      refine ⟨ip, fun _ => ⟨ip, ?_⟩, fun z => absurd (by rw [ep, h5]; exact nI_le (Nat.le_refl _) (by omega)) z⟩
      rw [ep]
      refine h _ (h1.tr (exM.I (by omega) (by omega))) ⟨?_, h3, h6, ?_, fun r hr => ?_, ?_⟩ ?_ ?_
      all_goals simp (disch := omega) only [I_aI_s, I_aI_n, pk_us]
      · exact h2
      · exact h5
      · exact ht r hr
      · exact h4
      · exact h8
    | succ r ih =>
      intro i σ1 hi hs ht
      obtain ⟨h1, h2, h3, h4, h5, h6, h7, h8⟩ := hs
      have i1 : vp_in (nI (4 * p + i)) 320 := vp_in_nI (by omega) (by decide)
      have i2 : vp_in (nI (4 * q + i)) 320 := vp_in_nI (by omega) (by decide)
      have hd := (hx.ex hm h1 hne).2.2.2.1 i (by omega)
      refine ⟨ip, fun z => absurd z (by rw [ep, h5]; exact nI_ge (by omega) (by omega)), fun _ => ?_⟩
      rw [i4, i4, nI_clamp (show 4 * p + i < 2 ^ 31 by omega), nI_clamp (show 4 * q + i < 2 ^ 31 by omega), nI_1]
      refine ⟨i2, i1, i2, i1, ih (i + 1) _ (by omega) ⟨(h1.tr (exM.I31 (by omega))).tr (exM.I32 (by omega)), ?_, h3, ?_, ?_, h6, ?_, ?_⟩ (fun t ht1 => ?_)⟩
      all_goals simp (disch := omega) only [I_aI_s, I_aI_n]
      · exact h2
      · exact h4
      · exact h5
      · exact h7
      · exact h8
      · by_cases e : t = i
        · subst e; rw [pk_us, pk_us]; exact hd
        · rw [pk_un (by omega), pk_un (by omega)]; exact ht t (by omega)
  have lp : ∀ (r i : Nat) (σ1 : St), i + r = 8 → mkS σ σ1 p x.mn i v x.sh → wp_M_make_46 Γ post thr (r + 1) (nI p) (nI q) (nI i) σ1 := by
    intro r
    induction r with
    | zero =>
      intro i σ1 hi hs
      obtain rfl : i = 8 := by omega
      exact ⟨fun _ => ⟨x.mn + 1, lp2 x.mn 0 σ1 (by omega) hs (fun t ht => absurd ht (Nat.not_lt_zero _))⟩, fun z => absurd (by decide) z⟩
    | succ r ih =>
      intro i σ1 hi hs
      have i1 : vp_in (nI (8 * p + i)) 640 := vp_in_nI (by omega) (by decide)
      have i2 : vp_in (nI (8 * q + i)) 640 := vp_in_nI (by omega) (by decide)
      have hd := (hx.ex hm hs.1 hne).2.1 i (by omega)
      refine ⟨fun z => absurd z (nI_ge (a := i) (b := 8) (by omega) (by decide)), fun _ => ⟨fun _ => ?_, fun z => absurd q0 z⟩⟩
      show vp_in ((8 : Int32) * nI q + nI i) 640 ∧ vp_in ((8 : Int32) * nI p + nI i) 640 ∧ _
      rw [i8, i8, nI_clamp (show 8 * p + i < 2 ^ 31 by omega), nI_clamp (show 8 * q + i < 2 ^ 31 by omega)]
      refine ⟨i2, i1, fun _ => ⟨i2, ?_⟩, fun z => absurd q0 z⟩
      show vp_in (nI (8 * p + i)) 640 ∧ wp_M_make_46 Γ post thr (r + 1) (nI p) (nI q) (nI i + 1) _
      rw [nI_clamp (show 8 * p + i < 2 ^ 31 by omega), nI_1, hd.1]
      refine ⟨i1, ?_⟩
      rw [show St.L (St.sL σ1 4 (8 * p + i) (lN (x.sh i).1)) 5 (8 * q + i) = lN (x.sh i).2 by rw [L_aL_n (by omega)]; exact hd.2]
      exact ih (i + 1) _ (by omega) (hs.step (by omega))
  refine ⟨ip, ip, ip, fun _ => ⟨iq, ip, 9, ?_⟩, fun z => absurd q0 z⟩
  rw [ep, eq]
  rw [show St.I (St.sI (St.sL (St.sI σ 29 p 1) 3 p v) 33 p 0) 30 q = nI x.mn by simp (disch := omega) only [I_aI_n, I_aL]; exact hx.2.2.1]
  exact lp 8 0 _ (by omega) mkS.start
theorem ok_setShare (Γ : Ev) {σ : St} {j n d : Nat} (hj : j < 640) (hd : 0 < d) (hd2 : d < 2 ^ 62) (hn : n < 2 ^ 62) {post : St → Prop} {thr : String → St → Prop} (h : post (St.sL (St.sL σ 4 j (lN (red n d).1)) 5 j (lN (red n d).2))) : wp_M_setShare Γ (nI j) (lN n) (lN d) σ post thr := by
  have ij : vp_in (nI j) 640 := vp_in_nI hj (by decide)
  have ej : (nI j).toNatClampNeg = j := nI_clamp (by omega)
  by_cases h0 : n = 0
  · subst h0
    refine ⟨fun z => absurd ((lg_cmp_eq _ _).mpr rfl) z, fun _ => ?_⟩
    have hne := lN_ne0 (show d < 2 ^ 63 by omega) hd
    refine ⟨hne, ij, hne, ij, ?_⟩
    rw [ej, lN_div (by omega) (by omega), lN_div (by omega) (by omega), Nat.zero_div, Nat.div_self hd]
    exact h
  · refine ⟨fun _ => ?_, fun z => absurd ((lg_cmp_eq _ _).mp z) (lN_ne0 (by omega) (Nat.pos_of_ne_zero h0))⟩
    have hg : 0 < Nat.gcd n d := Nat.gcd_pos_of_pos_right _ hd
    have hgd : Nat.gcd n d ≤ d := Nat.gcd_le_right n hd
    have hne := lN_ne0 (show Nat.gcd n d < 2 ^ 63 by omega) hg
    refine ok_div Γ (by omega) (by omega) ⟨hne, ij, hne, ij, ?_⟩
    rw [ej, lN_div (by omega) (by omega), lN_div (by omega) (by omega)]
    rw [show red n d = (n / Nat.gcd n d, d / Nat.gcd n d) from if_neg h0] at h
    exact h
