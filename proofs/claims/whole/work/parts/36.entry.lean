theorem lay_adG {AC : Nat → ClassId} {ad ad' : Nat → Nat} {σ : St} {f : Nat → Int64} {j : Nat} (h : ∀ i, i < 343 → ad i = ad' i) (hj : j < 343) : lay AC (Γ0 ad) σ j = lay AC (Γ0 ad') (σ.aL 6 f) j := by
  by_cases h4 : j < 4
  · rw [lay_0 h4, lay_0 h4]
    obtain rfl | rfl | rfl | rfl : j = 0 ∨ j = 1 ∨ j = 2 ∨ j = 3 := by omega
    · show eO (0, [.ref (ad 1), .ref (ad 2), .ref (ad 3), _, _]) = eO (0, [.ref (ad' 1), .ref (ad' 2), .ref (ad' 3), _, _])
      rw [h 1 (by omega), h 2 (by omega), h 3 (by omega)]
      rfl
    · rfl
    · rfl
    · show eA (AC 4, 80, rfA (fun p => if p < 80 then some (ad (4 + 4 * p)) else none)) = eA (AC 4, 80, rfA (fun p => if p < 80 then some (ad' (4 + 4 * p)) else none))
      congr 4
      funext p
      by_cases e : p < 80
      · rw [if_pos e, if_pos e, h _ (by omega)]
      · rw [if_neg e, if_neg e]
  · by_cases e4 : j < 324
    · obtain ⟨q, r, rfl, hr⟩ : ∃ q r, j = 4 + r + 4 * q ∧ r < 4 := ⟨(j - 4) / 4, (j - 4) % 4, by omega, by omega⟩
      rw [lay_P (by omega) hr, lay_P (by omega) hr]
      obtain rfl | rfl | rfl | rfl : r = 0 ∨ r = 1 ∨ r = 2 ∨ r = 3 := by omega
      · show eO (1, [_, _, .ref (ad (5 + 4 * q)), _, .ref (ad (6 + 4 * q)), .ref (ad (7 + 4 * q)), _, _, _]) = eO (1, [_, _, .ref (ad' (5 + 4 * q)), _, .ref (ad' (6 + 4 * q)), .ref (ad' (7 + 4 * q)), _, _, _])
        rw [h _ (by omega), h _ (by omega), h _ (by omega)]
        rfl
      · show eA (AC 1, 8, loA6 (σ.L (100 + q))) = eA (AC 1, 8, loA6 (va_up σ.L 6 f (100 + q)))
        rw [va_up_ne _ _ (by omega)]
      · rfl
      · rfl
    · obtain ⟨r, rfl⟩ : ∃ r, j = 324 + r := ⟨j - 324, by omega⟩
      rw [lay_M (by omega), lay_M (by omega)]
      match r with
      | 0 =>
        show eO (11, [_, _, _, .ref (ad 325), .ref (ad 326), .ref (ad 327), .ref (ad 328), .ref (ad 329), .ref (ad 330), .ref (ad 331), .ref (ad 332), .ref (ad 333), .ref (ad 334), .ref (ad 335), .ref (ad 336), .ref (ad 337), .ref (ad 338), .ref (ad 339), .ref (ad 340), .ref (ad 341), .ref (ad 342)]) = eO (11, [_, _, _, .ref (ad' 325), .ref (ad' 326), .ref (ad' 327), .ref (ad' 328), .ref (ad' 329), .ref (ad' 330), .ref (ad' 331), .ref (ad' 332), .ref (ad' 333), .ref (ad' 334), .ref (ad' 335), .ref (ad' 336), .ref (ad' 337), .ref (ad' 338), .ref (ad' 339), .ref (ad' 340), .ref (ad' 341), .ref (ad' 342)])
        rw [h 325 (by omega), h 326 (by omega), h 327 (by omega), h 328 (by omega), h 329 (by omega), h 330 (by omega), h 331 (by omega), h 332 (by omega), h 333 (by omega), h 334 (by omega), h 335 (by omega), h 336 (by omega), h 337 (by omega), h 338 (by omega), h 339 (by omega), h 340 (by omega), h 341 (by omega), h 342 (by omega)]
        rfl
      | 1 => rfl
      | 2 => rfl
      | 3 => rfl
      | 4 => rfl
      | 5 => rfl
      | 6 => rfl
      | 7 => rfl
      | 8 => rfl
      | 9 => rfl
      | 10 => rfl
      | 11 => rfl
      | 12 => rfl
      | 13 => rfl
      | 14 => rfl
      | 15 => rfl
      | 16 => rfl
      | 17 => rfl
      | 18 => rfl
      | _ + 19 => omega
theorem def_LR : ∀ j, j < 5 → defaultValue (e_LR j) = vp_V [.null, .null, .null, .int 0, .int 0] j := by
  intro j hj
  match j, hj with
  | 0, _ => rfl
  | 1, _ => rfl
  | 2, _ => rfl
  | 3, _ => rfl
  | 4, _ => rfl
  | _ + 5, h => exact absurd h (by omega)
theorem wC_wM {AC : Nat → ClassId} {ad : Nat → Nat} {q : Nat} : ww (wN (wC AC ad 80) q (.inr (11, mF ad 0))) = ww (wM AC (va_up ad 324 q) 0) := by
  refine ww_ext rfl (fun i hi => ⟨rfl, ?_⟩)
  have hi : i < 325 := hi
  show va_up _ 324 _ i = if i = 324 then eO (11, mF (va_up ad 324 q) 0) else lay AC (Γ0 (va_up ad 324 q)) σ00 i
  by_cases e : i = 324
  · subst e
    rw [va_up_self, if_pos rfl]
    rfl
  · rw [va_up_ne _ _ e, if_neg e]
    have hA : ∀ i, i < 4 + 4 * 80 → ad i = va_up ad 324 q i := fun i hi => (va_up_ne _ _ (by omega)).symm
    show (if i = 3 then _ else lay AC (Γ0 ad) σ00 i) = _
    by_cases e3 : i = 3
    · subst e3
      show eA (AC 4, 80, rfA (fun p => if p < 80 then some (ad (4 + 4 * p)) else none)) = eA (AC 4, 80, rfA (fun p => if p < 80 then some (va_up ad 324 q (4 + 4 * p)) else none))
      congr 4
      funext p
      by_cases e : p < 80
      · rw [if_pos e, if_pos e, hA _ (by omega)]
      · rw [if_neg e, if_neg e]
    · rw [if_neg e3]
      exact lay_adC (p := 80) hA (by omega) (by omega) e3
theorem wτ_out {AC : Nat → ClassId} {ad : Nat → Nat} {σ : St} {q : Nat} : ww (wN (wτ AC (Γ0 ad) σ) q (arL 1 AC)) = ww (wσ AC (Γ0 (va_up ad 343 q)) (σ.aL 6 (fun _ => 0))) := by
  refine ww_ext rfl (fun i hi => ⟨rfl, ?_⟩)
  have hi : i < 344 := hi
  show va_up (lay AC (Γ0 ad) σ) 343 _ i = lay AC (Γ0 (va_up ad 343 q)) (σ.aL 6 (fun _ => 0)) i
  by_cases e : i = 343
  · subst e
    rw [va_up_self, lay_M (j := 19) (by decide)]
    show arL 1 AC = eA (AC 1, 1, loA6 (va_up σ.L 6 (fun _ => 0) 6))
    rw [va_up_self]
  · rw [va_up_ne _ _ e]
    exact lay_adG (fun i hi => (va_up_ne _ _ (by omega)).symm) (by omega)
theorem wt_M_look_mono {Γ : Ev} {x1 x2 : Int32} {σ : St} {post post' : St → Prop} {thr : String → St → Prop} (hp : ∀ σ, post σ → post' σ) (h : wt_M_look Γ x1 x2 σ post thr) : wt_M_look Γ x1 x2 σ post' thr := by
  have m60 : ∀ (f : Nat) (x1 x2 x3 : Int32) (σ : St), wt_M_look_60 Γ post thr f x1 x2 x3 σ → wt_M_look_60 Γ post' thr f x1 x2 x3 σ := by
    intro f
    induction f with
    | zero => intro _ _ _ _ h; exact h
    | succ f ih =>
      intro x1 x2 x3 σ h
      refine ⟨fun q => hp _ (h.1 q), fun q => ?_⟩
      obtain ⟨g, z⟩ := h.2 q
      refine ⟨g, ?_⟩
      clear h q
      generalize (0 : Int32) = y at z ⊢
      induction g generalizing y with
      | zero => exact z
      | succ g ig => exact ⟨fun q => ih _ _ _ _ (z.1 q), fun q => z.2 q⟩
  have m37 : ∀ (f : Nat) (x1 x2 x3 : Int32) (σ : St), wt_M_look_37 Γ post thr f x1 x2 x3 σ → wt_M_look_37 Γ post' thr f x1 x2 x3 σ := by
    intro f
    induction f with
    | zero => intro _ _ _ _ h; exact h
    | succ f ih => intro x1 x2 x3 σ h; exact ⟨fun q => by obtain ⟨g, z⟩ := h.1 q; exact ⟨g, m60 _ _ _ _ _ z⟩, fun q => ⟨(h.2 q).1, ih _ _ _ _ (h.2 q).2⟩⟩
  have m2 : ∀ (f : Nat) (x1 x2 x3 : Int32) (σ : St), wt_M_look_2 Γ post thr f x1 x2 x3 σ → wt_M_look_2 Γ post' thr f x1 x2 x3 σ := by
    intro f
    induction f with
    | zero => intro _ _ _ _ h; exact h
    | succ f ih => intro x1 x2 x3 σ h; exact ⟨fun q => by obtain ⟨g, z⟩ := h.1 q; exact ⟨g, m37 _ _ _ _ _ z⟩, fun q => ⟨(h.2 q).1, (h.2 q).2.1, (h.2 q).2.2.1, ih _ _ _ _ (h.2 q).2.2.2⟩⟩
  obtain ⟨f, z⟩ := h
  exact ⟨f, m2 _ _ _ _ _ z⟩
set_option maxRecDepth 100000 in
set_option maxHeartbeats 4000000 in
theorem b_entry {p : Program} {l : Launch} {e : Env} {s : State} {m : MethodId} {args : Array Value} {below : List Frame} {meth : Method} {c : Code} {D : va_G} {AC : Nat → ClassId} {lo b : Nat} {post : Option Value → Wst → Prop} {thr : String → Wst → Prop} {w : Wst} (hw : w.1 = 0) (hX : Cx p s m args meth c x code 8 (some .boolean) [] D AC lo) {Ok : St → Prop} (h0 : ∀ ad, wt_M_look (Γ0 ad) 0 0 σ00 Ok (fun _ _ => False))
    (hk : ∀ ad σ, Ok σ → G p l e room_1 s m args below meth c 8 D lo post thr (wσ AC (Γ0 ad) (σ.aL 6 (fun _ => 0))) 4104 25650 23 [(0, .ref b), (1, .ref (ad 0)), (2, .ref (ad 324)), (3, .ref (ad 343)), (4, .int 0)] []) : G p l e room_1 s m args below meth c 8 D lo post thr w 4448 30557 0 [(0, .ref b)] [] := by
  obtain ⟨w0, w1, w2⟩ := w
  obtain rfl : w0 = 0 := hw
  refine g_new (k := 4447) (n := 30552) (ci := 0) (fs := [.null, .null, .null, .int 0, .int 0]) hX rfl in_LR ty_LR t_23 t_24 t_1 def_LR d_W_law_0 (fun q0 => ?_)
  refine g_eqw (w' := (1, fun _ => q0, fun _ => LR0)) (ww_ext rfl (fun i hi => ?_)) ?_
  · obtain rfl : i = 0 := by have hi : i < 1 := hi; omega
    exact ⟨rfl, rfl⟩
  refine g_dup hX d_W_law_3 rfl ?_
  refine g_callI (k := 4124) (n := 28392) (a := q0) (As := []) (rest := [.ref q0]) (post2 := fun v w' => ∃ ad, ad 0 = q0 ∧ v = none ∧ w' = wC AC ad 80) (thr2 := fun _ _ => False) hX (c_LR_init (fun ad ha => ⟨ad, ha, rfl, rfl⟩)) hdT_LR_init t_1 t_25 t_26 rfl ⟨⟨by decide, by decide⟩, np_LR_init⟩ ⟨Nat.le_of_ble_eq_true rfl, Nat.le_of_ble_eq_true rfl⟩ (Nat.le_of_ble_eq_true rfl) d_W_law_4 rfl ?_ (fun _ _ z => z.elim)
  rintro _ _ ⟨ad, ha, rfl, rfl⟩
  refine g_astore_n (i := 1) hX d_W_law_7 rfl (by decide) rfl ?_
  refine g_new (k := 4123) (n := 28371) (ci := 11) (fs := mF ad 0) hX rfl in_M ty_M t_740 t_741 t_3 def_M d_W_law_8 (fun q1 => ?_)
  refine g_eqw wC_wM ?_
  refine g_dup hX d_W_law_11 rfl ?_
  refine g_callI (k := 4105) (n := 25651) (a := q1) (As := []) (rest := [.ref q1]) (post2 := fun v w' => ∃ ad' σ, (∀ i, i < 325 → ad' i = va_up ad 324 q1 i) ∧ v = none ∧ w' = wτ AC (Γ0 ad') σ ∧ Ok σ) (thr2 := fun _ _ => False) hX (c_M_init (va_up_self _ _ _) (fun ad' hA => wt_M_look_mono (fun σ z => ⟨ad', σ, hA, rfl, rfl, z⟩) (h0 ad'))) hdT_M_init t_3 t_742 t_743 rfl ⟨⟨by decide, by decide⟩, np_M_init⟩ ⟨Nat.le_of_ble_eq_true rfl, Nat.le_of_ble_eq_true rfl⟩ (Nat.le_of_ble_eq_true rfl) d_W_law_12 rfl ?_ (fun _ _ z => z.elim)
  rintro _ _ ⟨ad', σ, hA, rfl, rfl, hok⟩
  refine g_astore_n (i := 2) hX d_W_law_15 rfl (by decide) rfl ?_
  refine g_iconst (v := 1) hX d_W_law_16 (by decide) ?_
  refine g_newaL (k := 4104) (n := 25650) (N1 := 1) hX t_96 (by decide) rfl (by decide) d_W_law_17 (fun q2 => ?_)
  refine g_eqw wτ_out ?_
  refine g_astore_n (i := 3) hX d_W_law_19 rfl (by decide) rfl ?_
  refine g_iconst (v := 0) hX d_W_law_20 (by decide) ?_
  refine g_istore (i := 4) hX d_W_law_21 (by decide) rfl ?_
  refine g_sub [4, 3, 2, 1, 0] rfl ?_
  have z := hk (va_up ad' 343 q2) σ hok
  rw [va_up_self, va_up_ne _ _ (by decide), va_up_ne _ _ (by decide), hA 0 (by decide), hA 324 (by decide), va_up_self, va_up_ne _ _ (by decide), ha] at z
  exact z

