/-! The script, call by call; the start; the claim -/
theorem st_day {Γ : Ev} {σ : St} {Q : Int32 → St → Prop} {Z : St → Prop} (I : Inv Γ σ) (hZ : ∀ σ', Inv Γ σ' → Z σ') (hQ : ∀ v σ', wp_M_day Γ  σ' (fun v12 σ13 => wp_M_thrown Γ σ13 (fun v14 σ15 => cmpL v v14 (St.L σ15 6 (0 : Int32).toNatClampNeg) (Int32.toInt64 v12) (Z σ15)) (fun _ _ => False)) (fun _ _ => False) → Q v σ') : wp_W_day Γ  σ Q := by
  obtain ⟨ds, N, T, V, hd, hi, hm, hl⟩ := I
  exact st_call Int32.toInt64 (W := wp_LR_day Γ  σ) (WM := fun σ' => wp_M_day Γ  σ') hd hi hm hl (fun c => ⟨⟨hd.1, by omega, hd.2.2⟩, LB_view hd⟩) (gC_day hd hi) (fun σ' m => gM_day hd m) hQ hZ
theorem st_view {Γ : Ev} {σ : St} {x1 x2 : Int32} {Q : Int32 → St → Prop} {Z : St → Prop} (I : Inv Γ σ) (hZ : ∀ σ', Inv Γ σ' → Z σ') (hQ : ∀ v σ', wp_M_view Γ x1 x2 σ' (fun v12 σ13 => wp_M_thrown Γ σ13 (fun v14 σ15 => cmpL v v14 (St.L σ15 6 (0 : Int32).toNatClampNeg) (Int32.toInt64 v12) (Z σ15)) (fun _ _ => False)) (fun _ _ => False) → Q v σ') : wp_W_view Γ x1 x2 σ Q := by
  obtain ⟨ds, N, T, V, hd, hi, hm, hl⟩ := I
  exact st_call Int32.toInt64 (W := wp_LR_view Γ x1 x2 σ) (WM := fun σ' => wp_M_view Γ x1 x2 σ') hd hi hm hl (fun _ => ⟨hd, LB_view hd⟩) (gC_view hd hi) (fun σ' m => gM_view hd m) hQ hZ
theorem st_area {Γ : Ev} {σ : St} {x1 : Int32} {Q : Int32 → St → Prop} {Z : St → Prop} (I : Inv Γ σ) (hZ : ∀ σ', Inv Γ σ' → Z σ') (hQ : ∀ v σ', wp_M_area Γ x1 σ' (fun v12 σ13 => wp_M_thrown Γ σ13 (fun v14 σ15 => cmpL v v14 (St.L σ15 6 (0 : Int32).toNatClampNeg) v12 (Z σ15)) (fun _ _ => False)) (fun _ _ => False) → Q v σ') : wp_W_area Γ x1 σ Q := by
  obtain ⟨ds, N, T, V, hd, hi, hm, hl⟩ := I
  exact st_call (fun v : Int64 => v) (W := wp_LR_area Γ x1 σ) (WM := fun σ' => wp_M_area Γ x1 σ') hd hi hm hl (fun _ => ⟨hd, hl⟩) (gC_area hi) (fun σ' m => gM_area m) hQ hZ
theorem st_share {Γ : Ev} {σ : St} {x1 x2 : Int32} {Q : Int32 → St → Prop} {Z : St → Prop} (I : Inv Γ σ) (hZ : ∀ σ', Inv Γ σ' → Z σ') (hQ : ∀ v σ', wp_M_share Γ x1 x2 σ' (fun v12 σ13 => wp_M_thrown Γ σ13 (fun v14 σ15 => cmpL v v14 (St.L σ15 6 (0 : Int32).toNatClampNeg) v12 (Z σ15)) (fun _ _ => False)) (fun _ _ => False) → Q v σ') : wp_W_share Γ x1 x2 σ Q := by
  obtain ⟨ds, N, T, V, hd, hi, hm, hl⟩ := I
  exact st_call (fun v : Int64 => v) (W := wp_LR_share Γ x1 x2 σ) (WM := fun σ' => wp_M_share Γ x1 x2 σ') hd hi hm hl (fun _ => ⟨hd, hl⟩) (gC_share hi) (fun σ' m => gM_share m hl) hQ hZ
theorem st_mortgage {Γ : Ev} {σ : St} {x1 x2 x3 : Int32} {Q : Int32 → St → Prop} {Z : St → Prop} (I : Inv Γ σ) (hZ : ∀ σ', Inv Γ σ' → Z σ') (hQ : ∀ v σ', wp_M_mortgage Γ x1 x2 x3 σ' (fun v12 σ13 => wp_M_thrown Γ σ13 (fun v14 σ15 => cmpL v v14 (St.L σ15 6 (0 : Int32).toNatClampNeg) (Int32.toInt64 v12) (Z σ15)) (fun _ _ => False)) (fun _ _ => False) → Q v σ') : wp_W_mortgage Γ x1 x2 x3 σ Q := by
  obtain ⟨ds, N, T, V, hd, hi, hm, hl⟩ := I
  exact st_call Int32.toInt64 (W := wp_LR_mortgage Γ x1 x2 x3 σ) (WM := fun σ' => wp_M_mortgage Γ x1 x2 x3 σ') hd hi hm hl (fun _ => ⟨hd, hl⟩) (gC_mort hi hl) (fun σ' m => gM_mort m hl) hQ hZ
theorem st_cautions {Γ : Ev} {σ : St} {x1 : Int32} {Q : Int32 → St → Prop} {Z : St → Prop} (I : Inv Γ σ) (hZ : ∀ σ', Inv Γ σ' → Z σ') (hQ : ∀ v σ', wp_M_cautions Γ x1 σ' (fun v12 σ13 => wp_M_thrown Γ σ13 (fun v14 σ15 => cmpL v v14 (St.L σ15 6 (0 : Int32).toNatClampNeg) (Int32.toInt64 v12) (Z σ15)) (fun _ _ => False)) (fun _ _ => False) → Q v σ') : wp_W_cautions Γ x1 σ Q := by
  obtain ⟨ds, N, T, V, hd, hi, hm, hl⟩ := I
  exact st_call Int32.toInt64 (W := wp_LR_cautions Γ x1 σ) (WM := fun σ' => wp_M_cautions Γ x1 σ') hd hi hm hl (fun _ => ⟨hd, hl⟩) (gC_caut hi) (fun σ' m => gM_caut m) hQ hZ
theorem st_origin {Γ : Ev} {σ : St} {x1 x2 : Int32} {Q : Int32 → St → Prop} {Z : St → Prop} (I : Inv Γ σ) (hZ : ∀ σ', Inv Γ σ' → Z σ') (hQ : ∀ v σ', wp_M_origin Γ x1 x2 σ' (fun v12 σ13 => wp_M_thrown Γ σ13 (fun v14 σ15 => cmpL v v14 (St.L σ15 6 (0 : Int32).toNatClampNeg) (Int32.toInt64 v12) (Z σ15)) (fun _ _ => False)) (fun _ _ => False) → Q v σ') : wp_W_origin Γ x1 x2 σ Q := by
  obtain ⟨ds, N, T, V, hd, hi, hm, hl⟩ := I
  exact st_call Int32.toInt64 (W := wp_LR_origin Γ x1 x2 σ) (WM := fun σ' => wp_M_origin Γ x1 x2 σ') hd hi hm hl (fun _ => ⟨hd, hl⟩) (gC_origin hi) (fun σ' m => gM_origin m) hQ hZ
theorem st_holding {Γ : Ev} {σ : St} {x1 x2 : Int32} {Q : Int32 → St → Prop} {Z : St → Prop} (I : Inv Γ σ) (hZ : ∀ σ', Inv Γ σ' → Z σ') (hQ : ∀ v σ', wp_M_holding Γ x1 x2 σ' (fun v12 σ13 => wp_M_thrown Γ σ13 (fun v14 σ15 => cmpL v v14 (St.L σ15 6 (0 : Int32).toNatClampNeg) (Int32.toInt64 v12) (Z σ15)) (fun _ _ => False)) (fun _ _ => False) → Q v σ') : wp_W_holding Γ x1 x2 σ Q := by
  obtain ⟨ds, N, T, V, hd, hi, hm, hl⟩ := I
  exact st_call Int32.toInt64 (W := wp_LR_holding Γ x1 x2 σ) (WM := fun σ' => wp_M_holding Γ x1 x2 σ') hd hi hm hl (fun _ => ⟨hd, hl⟩) (gC_hold hi hl) (fun σ' m => gM_hold m hl) hQ hZ
theorem st_owed {Γ : Ev} {σ : St} {x1 : Int32} {Q : Int32 → St → Prop} {Z : St → Prop} (I : Inv Γ σ) (hZ : ∀ σ', Inv Γ σ' → Z σ') (hQ : ∀ v σ', wp_M_owed Γ x1 σ' (fun v12 σ13 => wp_M_thrown Γ σ13 (fun v14 σ15 => cmpL v v14 (St.L σ15 6 (0 : Int32).toNatClampNeg) v12 (Z σ15)) (fun _ _ => False)) (fun _ _ => False) → Q v σ') : wp_W_owed Γ x1 σ Q := by
  obtain ⟨ds, N, T, V, hd, hi, hm, hl⟩ := I
  exact st_call (fun v : Int64 => v) (W := wp_LR_owed Γ x1 σ) (WM := fun σ' => wp_M_owed Γ x1 σ') hd hi hm hl (fun _ => ⟨hd, hl⟩) (gC_owed hi hl) (fun σ' m => gM_owed m hl) hQ hZ
theorem st_state {Γ : Ev} {σ : St} {x1 : Int32} {Q : Int32 → St → Prop} {Z : St → Prop} (I : Inv Γ σ) (hZ : ∀ σ', Inv Γ σ' → Z σ') (hQ : ∀ v σ', wp_M_state Γ x1 σ' (fun v12 σ13 => wp_M_thrown Γ σ13 (fun v14 σ15 => cmpL v v14 (St.L σ15 6 (0 : Int32).toNatClampNeg) (Int32.toInt64 v12) (Z σ15)) (fun _ _ => False)) (fun _ _ => False) → Q v σ') : wp_W_state Γ x1 σ Q := by
  obtain ⟨ds, N, T, V, hd, hi, hm, hl⟩ := I
  exact st_call Int32.toInt64 (W := wp_LR_state Γ x1 σ) (WM := fun σ' => wp_M_state Γ x1 σ') hd hi hm hl (fun _ => ⟨hd, hl⟩) (gC_state hd hi) (fun σ' m => gM_state hd m) hQ hZ
theorem st_parcel {Γ : Ev} {σ : St} {x1 : Int32} {Q : Int32 → St → Prop} {Z : St → Prop} (I : Inv Γ σ) (hZ : ∀ σ', Inv Γ σ' → Z σ') (hQ : ∀ v σ', wp_M_parcel Γ x1 σ' (fun v' σ2 => ((v = v' → Z σ2) ∧ (¬ v = v' → False))) (fun _ _ => False) → Q v σ') : wp_LR_parcel Γ x1 σ Q (fun _ _ => False) := by
  obtain ⟨ds, N, T, V, hd, hi, hm, hl⟩ := I
  refine ⟨81, ok_parcC hi.R 80 0 0 x1 rfl (Int32.zero_add _) (hQ _ _ ⟨81, ok_parcM (hm.t20 (v := 0)).R 80 0 x1 rfl ⟨fun _ => hZ _ ⟨ds, N, T, V, hd, hi.same sameC_20, hm.t20, hl⟩, fun y => y rfl⟩⟩)⟩
theorem nI_end {L m : Nat} (hL : L ≤ 3584) (hm : 7 * m ≤ L) (h : ¬ Int32.ofNat L - (7 : Int32) < nI (7 * m)) : 7 * m + 7 ≤ L := by
  by_cases c : 7 * m + 7 ≤ L
  · exact c
  · refine absurd ?_ h
    rw [Int32.lt_iff_toInt_lt, Int32.toInt_sub, nI_toInt (by omega), show (Int32.ofNat L).toInt = (L : Int) from nI_toInt (by omega), show (7 : Int32).toInt = (7 : Int) from rfl, Int.bmod_eq_of_le (by omega) (by omega)]
    omega
theorem vp_j {L m j : Nat} {y : Int32} (hy : y = nI j) (hL : L ≤ 3584) (h : 7 * m + 7 ≤ L) (hj : j < 7) : vp_in (nI (7 * m) + y) L := by
  rw [hy, nI_add]
  exact vp_in_nI (by omega) (by omega)
set_option maxHeartbeats 4000000 in
theorem law_ok {L : Nat} {xs : Nat → Int32} (hL : L ≤ 3584) : ∀ (fuel m : Nat) (Γ : Ev) (σ : St), m + fuel = 513 → 7 * m ≤ L → Inv Γ σ → wl_law L xs fuel Γ (nI (7 * m)) σ := by
  intro fuel
  induction fuel with
  | zero => intro m Γ σ h1 h2 _; exact absurd h2 (by omega)
  | succ fuel ih =>
    intro m Γ σ hf hm I
    refine ⟨fun _ => trivial, fun hc => ?_⟩
    have h7 := nI_end hL hm hc
    have v1 := vp_j (y := 1) (j := 1) rfl hL h7 (by decide)
    have v2 := vp_j (y := 2) (j := 2) rfl hL h7 (by decide)
    have v3 := vp_j (y := 3) (j := 3) rfl hL h7 (by decide)
    have v4 := vp_j (y := 4) (j := 4) rfl hL h7 (by decide)
    have v5 := vp_j (y := 5) (j := 5) rfl hL h7 (by decide)
    have v6 := vp_j (y := 6) (j := 6) rfl hL h7 (by decide)
    have nx : ∀ Γ' σ', Inv Γ' σ' → wl_law L xs fuel Γ' (nI (7 * m) + 7) σ' := by
      intro Γ' σ' I'
      rw [show nI (7 * m) + 7 = nI (7 * (m + 1)) from nI_add (7 * m) 7]
      exact ih (m + 1) Γ' σ' (by omega) (by omega) I'
    refine ⟨vp_in_nI (by omega) (by omega), fun _ => nx Γ σ I, ?_, ?_, ?_, ?_, ?_, ?_, ?_, ?_, ?_, ?_, ?_, ?_, ?_, ?_, ?_, ?_, ?_, ?_, ?_, ?_⟩
    · exact fun _ => ⟨v1, v2, v3, st_found I nx (fun v Γ' σ' h => ⟨v1, v2, v3, h⟩)⟩
    · exact fun _ => ⟨v1, v2, v3, v4, v5, v6, st_sell I nx (fun v Γ' σ' h => ⟨v1, v2, v3, v4, v5, v6, h⟩)⟩
    · exact fun _ => ⟨v1, v2, v3, v4, st_pledge I nx (fun v Γ' σ' h => ⟨v1, v2, v3, v4, h⟩)⟩
    · exact fun _ => ⟨v1, v2, v3, v4, v5, st_rerank I nx (fun v Γ' σ' h => ⟨v1, v2, v3, v4, v5, h⟩)⟩
    · exact fun _ => ⟨v1, v2, v3, st_release I nx (fun v Γ' σ' h => ⟨v1, v2, v3, h⟩)⟩
    · exact fun _ => ⟨v1, v2, v3, st_caution I nx (fun v Γ' σ' h => ⟨v1, v2, v3, h⟩)⟩
    · exact fun _ => ⟨v1, v2, v3, st_lift I nx (fun v Γ' σ' h => ⟨v1, v2, v3, h⟩)⟩
    · exact fun _ => ⟨v1, v2, v3, st_split I nx (fun v Γ' σ' h => ⟨v1, v2, v3, h⟩)⟩
    · exact fun _ => ⟨v1, v2, v3, st_merge I nx (fun v Γ' σ' h => ⟨v1, v2, v3, h⟩)⟩
    · exact fun _ => st_day I (nx Γ) (fun v σ' h => h)
    · exact fun _ => ⟨v1, v2, st_view I (nx Γ) (fun v σ' h => ⟨v1, v2, h⟩)⟩
    · exact fun _ => ⟨v1, st_parcel I (nx Γ) (fun v σ' h => ⟨v1, h⟩)⟩
    · exact fun _ => ⟨v1, st_area I (nx Γ) (fun v σ' h => ⟨v1, h⟩)⟩
    · exact fun _ => ⟨v1, v2, st_share I (nx Γ) (fun v σ' h => ⟨v1, v2, h⟩)⟩
    · exact fun _ => ⟨v1, v2, v3, st_mortgage I (nx Γ) (fun v σ' h => ⟨v1, v2, v3, h⟩)⟩
    · exact fun _ => ⟨v1, st_cautions I (nx Γ) (fun v σ' h => ⟨v1, h⟩)⟩
    · exact fun _ => ⟨v1, v2, st_origin I (nx Γ) (fun v σ' h => ⟨v1, v2, h⟩)⟩
    · exact fun _ => ⟨v1, v2, st_holding I (nx Γ) (fun v σ' h => ⟨v1, v2, h⟩)⟩
    · exact fun _ => ⟨v1, st_owed I (nx Γ) (fun v σ' h => ⟨v1, h⟩)⟩
    · exact fun _ => ⟨v1, st_state I (nx Γ) (fun v σ' h => ⟨v1, h⟩)⟩
/-- the start: the registers that the constructors leave -/
theorem start_inv {ad : Nat → Nat} {σ : St} (hI : ∀ k, ¬ (k = 29 ∨ k = 34 ∨ k = 35) → σ.I k = σ00.I k) (h29 : ∀ p, p < 80 → σ.I 29 p = 0) (h34 : ∀ p, p < 80 → σ.I 34 p = -1) (h35 : ∀ p, p < 80 → σ.I 35 p = -1) : Inv (Γ0 ad) (σ.aL 6 (fun _ => 0)) := by
  refine ⟨fun _ => (0, (0, 0), (0, 0, 0), 0, (0, 0)), 0, 0, (A0, fun _ => -1), ⟨by omega, by omega, fun n hn => absurd hn (Nat.not_lt_zero _)⟩, ⟨rfl, ?_, ?_, fun d n hd => absurd (ordL_mem.mp (List.mem_of_getElem? hd)).1 (Nat.not_lt_zero _), fun n hn => absurd hn (Nat.not_lt_zero _), fun n hn => absurd hn (Nat.not_lt_zero _), ⟨fun p hp => ?_, fun p hp => ⟨?_, ?_⟩⟩, fun n hn => absurd hn (Nat.not_lt_zero _)⟩, ⟨?_, ?_, fun n hn => absurd hn (Nat.not_lt_zero _), ⟨fun p hp => h29 p hp, fun p hp => ⟨h34 p hp, h35 p hp⟩⟩, fun n hn => absurd hn (Nat.not_lt_zero _)⟩, fun p hp x hx => by cases hx⟩
  · rw [I_aL, hI 0 (by decide)]; rfl
  · rw [I_aL, hI 0 (by decide)]; rfl
  · show St.I (σ.aL 6 (fun _ => 0)) 1 p = 0
    rw [I_aL, hI 1 (by decide)]; rfl
  · rw [I_aL, hI 4 (by decide)]; rfl
  · rw [I_aL, hI 5 (by decide)]; rfl
  · rw [I_aL, hI 20 (by decide)]; rfl
  · rw [I_aL, hI 20 (by decide)]; rfl
theorem start_look {Γ : Ev} {Ok : St → Prop} {thr : String → St → Prop} (h : ∀ σ, (∀ k, ¬ (k = 29 ∨ k = 34 ∨ k = 35) → σ.I k = σ00.I k) → (∀ p, p < 80 → σ.I 29 p = 0) → (∀ p, p < 80 → σ.I 34 p = -1) → (∀ p, p < 80 → σ.I 35 p = -1) → Ok σ) : wt_M_look Γ 0 0 σ00 Ok thr := by
  have lp : ∀ (r i : Nat) (σ : St), i + r = 80 → (∀ k, ¬ (k = 29 ∨ k = 34 ∨ k = 35) → σ.I k = σ00.I k) → (∀ p, p < i → σ.I 29 p = 0) → (∀ p, p < i → σ.I 34 p = -1) → (∀ p, p < i → σ.I 35 p = -1) → wt_M_look_2 Γ Ok thr (r + 1) 0 0 (nI i) σ := by
    intro r
    induction r with
    | zero =>
      intro i σ hi hI h29 h34 h35
      refine ⟨fun _ => ⟨1, ?_⟩, fun w => absurd (nI_le (a := 80) (b := i) (by omega) (by omega)) w⟩
      have e : σ.I 20 2 = 0 := by rw [hI 20 (by decide)]; rfl
      have ok : Ok σ := h σ hI (fun p hp => h29 p (by omega)) (fun p hp => h34 p (by omega)) (fun p hp => h35 p (by omega))
      refine ⟨fun _ => ⟨2, ⟨fun w => absurd w (by decide), fun _ => ⟨1, ⟨fun _ => ?_, fun w => absurd (by rw [e]; decide) w⟩⟩⟩⟩, fun w => absurd (by rw [e]; decide) w⟩
      exact ⟨fun _ => ok, fun w => absurd (by decide) w⟩
    | succ r ih =>
      intro i σ hi hI h29 h34 h35
      have iv : vp_in (nI i) 80 := vp_in_nI (by omega) (by decide)
      refine ⟨fun w => absurd w (nI_ge (a := i) (b := 80) (by omega) (by decide)), fun _ => ⟨iv, iv, iv, ?_⟩⟩
      rw [nI_clamp (by omega), nI_1]
      refine ih (i + 1) _ (by omega) (fun k hk => ?_) (fun p hp => ?_) (fun p hp => ?_) (fun p hp => ?_)
      · rw [I_aI_n (by omega), I_aI_n (by omega), I_aI_n (by omega)]; exact hI k hk
      · rw [I_aI_n (by decide), I_aI_n (by decide), I_aI_s]
        by_cases c : p = i
        · subst c; rw [pk_us]
        · rw [pk_un c]; exact h29 p (by omega)
      · rw [I_aI_n (by decide), I_aI_s, I_aI_n (by decide)]
        by_cases c : p = i
        · subst c; rw [pk_us]
        · rw [pk_un c]; exact h34 p (by omega)
      · rw [I_aI_s, I_aI_n (by decide), I_aI_n (by decide)]
        by_cases c : p = i
        · subst c; rw [pk_us]
        · rw [pk_un c]; exact h35 p (by omega)
  exact ⟨81, lp 80 0 σ00 rfl (fun _ _ => rfl) (fun p hp => absurd hp (Nat.not_lt_zero _)) (fun p hp => absurd hp (Nat.not_lt_zero _)) (fun p hp => absurd hp (Nat.not_lt_zero _))⟩
theorem pure_law : Pure := fun _ _ hL => ⟨fun σ => ∀ ad, Inv (Γ0 ad) (σ.aL 6 (fun _ => 0)), fun _ => start_look (fun _ a b c d _ => start_inv a b c d), fun ad σ ok => ⟨513, Nat.le_refl _, law_ok hL 513 0 (Γ0 ad) (σ.aL 6 (fun _ => 0)) rfl (Nat.zero_le _) (ok ad)⟩⟩
