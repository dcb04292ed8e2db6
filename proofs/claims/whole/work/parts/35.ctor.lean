/-! The constructors, and the start of the law -/
section CTOR
variable {p : Program} {l : Launch} {e : Env} {R : Room} {s : State} {m : MethodId} {args : Array Value} {below : List Frame} {meth : Method} {c : Code} {nL : Nat} {D : va_G} {AC : Nat → ClassId} {lo : Nat} {post : Option Value → Wst → Prop} {thr : String → Wst → Prop} {w w' : Wst} {k n pc : Nat} {lv : List (Nat × Value)} {st : List Value}
theorem g_eqw (h : ww w = ww w') (kk : G p l e R s m args below meth c nL D lo post thr w' k n pc lv st) : G p l e R s m args below meth c nL D lo post thr w k n pc lv st :=
  fun H locs ls cells slots hb => kk H locs ls cells slots ⟨hb.1, by have z := hb.2.1; unfold wP at z ⊢; rw [h] at z; exact z, hb.2.2⟩
theorem ww_ext (hN : w.1 = w'.1) (h : ∀ i, i < w.1 → w.2.1 i = w'.2.1 i ∧ w.2.2 i = w'.2.2 i) : ww w = ww w' := by
  unfold ww wl
  rw [← hN]
  apply List.map_congr_left
  intro i hi
  obtain ⟨a, b⟩ := h i (List.mem_range.mp hi)
  rw [a, b]
theorem wN_E {q i : Nat} {x : va_E} (h : i < w.1) : (wN w q x).2.2 i = w.2.2 i := va_up_ne _ _ (Nat.ne_of_lt h)
theorem wN_ad {q i : Nat} {x : va_E} (h : i < w.1) : (wN w q x).2.1 i = w.2.1 i := va_up_ne _ _ (Nat.ne_of_lt h)
theorem wN_E1 {q : Nat} {x : va_E} : (wN w q x).2.2 w.1 = x := va_up_self _ _ _
theorem wN_ad1 {q : Nat} {x : va_E} : (wN w q x).2.1 w.1 = q := va_up_self _ _ _
theorem wS_E1 {i : Nat} {x : va_E} : (wS w i x).2.2 i = x := va_up_self _ _ _
theorem wS_E {i j : Nat} {x : va_E} (h : j ≠ i) : (wS w i x).2.2 j = w.2.2 j := va_up_ne _ _ h
end CTOR
abbrev arL (n : Nat) (AC : Nat → ClassId) : va_E := .inl (AC 1, n, .inr (.inl (fun _ => 0)))
abbrev arI (n : Nat) (AC : Nat → ClassId) : va_E := .inl (AC 0, n, .inl (fun _ => 0))
abbrev arZ (n : Nat) (AC : Nat → ClassId) : va_E := .inl (AC 2, n, .inl (fun _ => 0))
abbrev par0 : va_E := .inr (1, [.int 0, .long 0, .null, .int 0, .null, .null, .int 0, .int 0, .int 0])
abbrev par1 (a b d : Nat) : va_E := .inr (1, [.int 0, .long 0, .ref a, .int 0, .ref b, .ref d, .int 0, .int (-1), .int (-1)])
/-- a parcel's cells, made at the end of the world -/
def parW (AC : Nat → ClassId) (w : Wst) (i q1 q2 q3 : Nat) : Wst :=
  (w.1 + 3, fun j => if j = w.1 then q1 else if j = w.1 + 1 then q2 else if j = w.1 + 2 then q3 else w.2.1 j,
   fun j => if j = i then par1 q1 q2 q3 else if j = w.1 then arL 8 AC else if j = w.1 + 1 then arI 4 AC else if j = w.1 + 2 then arI 4 AC else w.2.2 j)
abbrev rm_P_init : Room := { frames := 1, cells := 3, slots := 16, locals := 20 }
set_option maxRecDepth 100000 in
set_option maxHeartbeats 4000000 in
theorem c_P_init {l : Launch} {D : va_G} {AC : Nat → ClassId} {lo : Nat} {w : Wst} {i a : Nat} {post : Option Value → Wst → Prop} {thr : String → Wst → Prop} (hi : i < w.1) (ha : w.2.1 i = a) (he : w.2.2 i = par0) (h : ∀ q1 q2 q3, post none (parW AC w i q1 q2 q3)) : Ct l y_P_init hd_P_init rm_P_init D AC lo [.ref a] w post thr := by
  refine Ct.of (by decide) (Nat.le_of_ble_eq_true rfl) ?_
  intro p e s m args below meth c hadm hX
  show G p l e rm_P_init s m args below meth c 1 D lo post thr w 3 16 0 [(0, .ref a)] []
  refine g_aload_n hX d_P_init_0 rfl 0 rfl ?_
  refine g_objInit hX t_39 t_29 t_30 (Nat.le_of_ble_eq_true rfl) (Nat.le_of_ble_eq_true rfl) d_P_init_1 ?_
  refine g_aload_n hX d_P_init_4 rfl 0 rfl ?_
  refine g_bipush (v := 8) hX d_P_init_5 (by decide) ?_
  refine g_newaL (k := 2) (n := 8) (N1 := 8) hX t_96 (by decide) rfl (by decide) d_P_init_7 (fun q1 => ?_)
  refine g_putF (i := i) (kf := 2) (ty := .array .long) hX (Nat.lt_succ_of_lt hi) ((wN_ad (q := q1) (x := arL 8 AC) hi).trans ha) ((wN_E (q := q1) (x := arL 8 AC) hi).trans he) rfl in_P ty_P nm_P (by decide) t_51 (Or.inl rfl) rfl rfl rfl (by decide +kernel) rfl rfl (by show _ < List.length _; simp) d_P_init_9 rfl ?_
  refine g_aload_n hX d_P_init_12 rfl 0 rfl ?_
  refine g_iconst (v := 4) hX d_P_init_13 (by decide) ?_
  refine g_newaI (k := 1) (n := 4) (N1 := 4) hX t_97 (by decide) rfl (by decide) d_P_init_14 (fun q2 => ?_)
  have hi3 : i < (wN w q1 (arL 8 AC)).1 := Nat.lt_succ_of_lt hi
  refine g_putF (i := i) (kf := 4) (ty := .array .int) hX (Nat.lt_succ_of_lt hi3) ((wN_ad (w := wS (wN w q1 (arL 8 AC)) i _) (q := q2) (x := arI 4 AC) hi3).trans ((wN_ad (q := q1) (x := arL 8 AC) hi).trans ha)) ((wN_E (w := wS (wN w q1 (arL 8 AC)) i _) (q := q2) (x := arI 4 AC) hi3).trans wS_E1) rfl in_P ty_P nm_P (by decide) t_59 (Or.inl rfl) rfl rfl rfl (by decide +kernel) rfl rfl (by show _ < List.length _; simp) d_P_init_16 rfl ?_
  refine g_aload_n hX d_P_init_19 rfl 0 rfl ?_
  refine g_iconst (v := 4) hX d_P_init_20 (by decide) ?_
  refine g_newaI (k := 0) (n := 0) (N1 := 4) hX t_97 (by decide) rfl (by decide) d_P_init_21 (fun q3 => ?_)
  have hi5 : i < (wN (wN w q1 (arL 8 AC)) q2 (arI 4 AC)).1 := Nat.lt_succ_of_lt hi3
  refine g_putF (i := i) (kf := 5) (ty := .array .int) hX (Nat.lt_succ_of_lt hi5) ((wN_ad (w := wS (wN (wS (wN w q1 (arL 8 AC)) i _) q2 (arI 4 AC)) i _) (q := q3) (x := arI 4 AC) hi5).trans ((wN_ad (w := wS (wN w q1 (arL 8 AC)) i _) (q := q2) (x := arI 4 AC) hi3).trans ((wN_ad (q := q1) (x := arL 8 AC) hi).trans ha))) ((wN_E (w := wS (wN (wS (wN w q1 (arL 8 AC)) i _) q2 (arI 4 AC)) i _) (q := q3) (x := arI 4 AC) hi5).trans wS_E1) rfl in_P ty_P nm_P (by decide) t_62 (Or.inl rfl) rfl rfl rfl (by decide +kernel) rfl rfl (by show _ < List.length _; simp) d_P_init_23 rfl ?_
  have hi6 : i < w.1 + 1 + 1 + 1 := by omega
  have ha6 : va_up (va_up (va_up w.2.1 w.1 q1) (w.1 + 1) q2) (w.1 + 1 + 1) q3 i = a := by rw [va_up_ne _ _ (by omega), va_up_ne _ _ (by omega), va_up_ne _ _ (by omega)]; exact ha
  refine g_aload_n hX d_P_init_26 rfl 0 rfl ?_
  refine g_iconst (v := -1) hX d_P_init_27 (by decide) ?_
  refine g_putf (i := i) (kf := 7) (ty := .int) hX hi6 ha6 wS_E1 rfl in_P ty_P nm_P (by decide) t_70 (Or.inl rfl) rfl (by decide +kernel) rfl rfl (by show _ < List.length _; simp) d_P_init_28 rfl ?_
  refine g_aload_n hX d_P_init_31 rfl 0 rfl ?_
  refine g_iconst (v := -1) hX d_P_init_32 (by decide) ?_
  refine g_putf (i := i) (kf := 8) (ty := .int) hX hi6 ha6 wS_E1 rfl in_P ty_P nm_P (by decide) t_74 (Or.inl rfl) rfl (by decide +kernel) rfl rfl (by show _ < List.length _; simp) d_P_init_33 rfl ?_
  refine g_eqw (w' := parW AC w i q1 q2 q3) (ww_ext rfl (fun j hj => ⟨?_, ?_⟩)) ?_
  · show va_up (va_up (va_up w.2.1 w.1 q1) (w.1 + 1) q2) (w.1 + 1 + 1) q3 j = if j = w.1 then q1 else if j = w.1 + 1 then q2 else if j = w.1 + 2 then q3 else w.2.1 j
    simp only [va_up]
    repeat' split
    all_goals first | rfl | omega
  · by_cases e0 : j = i
    · subst e0
      refine wS_E1.trans ?_
      show _ = if j = j then par1 q1 q2 q3 else _
      rw [if_pos rfl]
      rfl
    · refine (wS_E e0).trans ((wS_E e0).trans ((wS_E e0).trans ?_))
      show _ = if j = i then _ else if j = w.1 then arL 8 AC else if j = w.1 + 1 then arI 4 AC else if j = w.1 + 2 then arI 4 AC else w.2.2 j
      rw [if_neg e0]
      by_cases e3 : j = w.1 + 2
      · subst e3
        rw [if_neg (by omega), if_neg (by omega), if_pos rfl]
        exact wN_E1
      · have hj3 : j < w.1 + 1 + 1 + 1 := hj
        refine (wN_E (by show j < w.1 + 1 + 1; omega)).trans ((wS_E e0).trans ?_)
        by_cases e2 : j = w.1 + 1
        · subst e2
          rw [if_neg (by omega), if_pos rfl]
          exact wN_E1
        · refine (wN_E (by show j < w.1 + 1; omega)).trans ((wS_E e0).trans ?_)
          by_cases e1 : j = w.1
          · subst e1
            rw [if_pos rfl]
            exact wN_E1
          · rw [if_neg e1, if_neg e2, if_neg e3]
            exact wN_E (by omega)
  · exact g_vret hX rfl d_P_init_36 (h q1 q2 q3)

abbrev eO (x : Nat × List Value) : va_E := .inr x
abbrev eA (x : ClassId × Nat × ((Nat → Int32) ⊕ (Nat → Int64) ⊕ (Nat → UInt32) ⊕ (Nat → UInt64) ⊕ (Nat → Option Nat))) : va_E := .inl x
abbrev Γ0 (ad : Nat → Nat) : Ev := (ad, fun _ => 0, 0)
abbrev σ00 : St := (fun k _ => if k = 4 ∨ k = 5 then -1 else 0, fun _ _ => 0, fun _ _ => none)
theorem σ00_I {k : Nat} (h : 6 ≤ k) : St.I σ00 k = fun _ => 0 := funext fun _ => if_neg (by omega)
/-- the object with p of its parcels made -/
def wC (AC : Nat → ClassId) (ad : Nat → Nat) (p : Nat) : Wst :=
  (4 + 4 * p, ad, fun i => if i = 3 then .inl (AC 4, 80, rfA (fun j => if j < p then some (ad (4 + 4 * j)) else none)) else lay AC (Γ0 ad) σ00 i)
theorem lay_adC {AC : Nat → ClassId} {ad ad' : Nat → Nat} {p j : Nat} (h : ∀ i, i < 4 + 4 * p → ad i = ad' i) (hp : p ≤ 80) (hj : j < 4 + 4 * p) (h3 : j ≠ 3) : lay AC (Γ0 ad) σ00 j = lay AC (Γ0 ad') σ00 j := by
  by_cases h4 : j < 4
  · rw [lay_0 h4, lay_0 h4]
    obtain rfl | rfl | rfl : j = 0 ∨ j = 1 ∨ j = 2 := by omega
    · show eO (0, [.ref (ad 1), .ref (ad 2), .ref (ad 3), _, _]) = eO (0, [.ref (ad' 1), .ref (ad' 2), .ref (ad' 3), _, _])
      rw [h 1 (by omega), h 2 (by omega), h 3 (by omega)]
    · rfl
    · rfl
  · obtain ⟨q, r, rfl, hr⟩ : ∃ q r, j = 4 + r + 4 * q ∧ r < 4 := ⟨(j - 4) / 4, (j - 4) % 4, by omega, by omega⟩
    rw [lay_P (by omega) hr, lay_P (by omega) hr]
    obtain rfl | rfl | rfl | rfl : r = 0 ∨ r = 1 ∨ r = 2 ∨ r = 3 := by omega
    · show eO (1, [_, _, .ref (ad (5 + 4 * q)), _, .ref (ad (6 + 4 * q)), .ref (ad (7 + 4 * q)), _, _, _]) = eO (1, [_, _, .ref (ad' (5 + 4 * q)), _, .ref (ad' (6 + 4 * q)), .ref (ad' (7 + 4 * q)), _, _, _])
      rw [h _ (by omega), h _ (by omega), h _ (by omega)]
    · rfl
    · rfl
    · rfl
/-- the addresses with parcel p's cells -/
def adP (ad : Nat → Nat) (p q q1 q2 q3 : Nat) : Nat → Nat := fun j => if j = 4 + 4 * p then q else if j = 5 + 4 * p then q1 else if j = 6 + 4 * p then q2 else if j = 7 + 4 * p then q3 else ad j
theorem wC_step {AC : Nat → ClassId} {ad : Nat → Nat} {p q q1 q2 q3 : Nat} (hp : p < 80) {x : Nat} (hx : x = p) :
    ww (wS (parW AC (wN (wC AC ad p) q par0) (4 + 4 * p) q1 q2 q3) 3 (.inl (AC 4, 80, rfA (va_up (fun j => if j < p then some (ad (4 + 4 * j)) else none) x (some q))))) = ww (wC AC (adP ad p q q1 q2 q3) (p + 1)) := by
  subst hx
  have hA : ∀ i, i < 4 + 4 * x → ad i = adP ad x q q1 q2 q3 i := fun i hi => by unfold adP; rw [if_neg (by omega), if_neg (by omega), if_neg (by omega), if_neg (by omega)]
  refine ww_ext (by show 4 + 4 * x + 1 + 3 = 4 + 4 * (x + 1); omega) (fun j hj => ⟨?_, ?_⟩)
  · show (if j = 4 + 4 * x + 1 then q1 else if j = 4 + 4 * x + 1 + 1 then q2 else if j = 4 + 4 * x + 1 + 2 then q3 else if j = 4 + 4 * x then q else ad j) = if j = 4 + 4 * x then q else if j = 5 + 4 * x then q1 else if j = 6 + 4 * x then q2 else if j = 7 + 4 * x then q3 else ad j
    repeat' split
    all_goals first | rfl | omega
  · have hj : j < 4 + 4 * x + 1 + 3 := hj
    by_cases e3 : j = 3
    · subst e3
      refine wS_E1.trans ?_
      show _ = if 3 = 3 then eA (AC 4, 80, rfA (fun j => if j < x + 1 then some (adP ad x q q1 q2 q3 (4 + 4 * j)) else none)) else lay AC (Γ0 (adP ad x q q1 q2 q3)) σ00 3
      rw [if_pos rfl]
      congr 4
      funext j
      by_cases e : j = x
      · subst e
        rw [va_up_self, if_pos (by omega)]
        show _ = some (if 4 + 4 * j = 4 + 4 * j then q else _)
        rw [if_pos rfl]
      · rw [va_up_ne _ _ e]
        by_cases e2 : j < x
        · rw [if_pos e2, if_pos (by omega), hA _ (by omega)]
        · rw [if_neg e2, if_neg (by omega)]
    · refine (wS_E e3).trans ?_
      show _ = if j = 3 then _ else lay AC (Γ0 (adP ad x q q1 q2 q3)) σ00 j
      rw [if_neg e3]
      show (if j = 4 + 4 * x then par1 q1 q2 q3 else if j = 4 + 4 * x + 1 then arL 8 AC else if j = 4 + 4 * x + 1 + 1 then arI 4 AC else if j = 4 + 4 * x + 1 + 2 then arI 4 AC else (wN (wC AC ad x) q par0).2.2 j) = _
      by_cases e4 : j = 4 + 4 * x
      · subst e4
        rw [if_pos rfl, lay_P0 hp]
        show _ = eO (1, [_, _, .ref (adP ad x q q1 q2 q3 (5 + 4 * x)), _, .ref (adP ad x q q1 q2 q3 (6 + 4 * x)), .ref (adP ad x q q1 q2 q3 (7 + 4 * x)), _, _, _])
        rw [show adP ad x q q1 q2 q3 (5 + 4 * x) = q1 by unfold adP; rw [if_neg (by omega), if_pos rfl], show adP ad x q q1 q2 q3 (6 + 4 * x) = q2 by unfold adP; rw [if_neg (by omega), if_neg (by omega), if_pos rfl], show adP ad x q q1 q2 q3 (7 + 4 * x) = q3 by unfold adP; rw [if_neg (by omega), if_neg (by omega), if_neg (by omega), if_pos rfl]]
        rfl
      · rw [if_neg e4]
        by_cases e5 : j = 4 + 4 * x + 1
        · rw [if_pos e5, show j = 5 + 4 * x by omega, lay_P1 hp]
          rfl
        · rw [if_neg e5]
          by_cases e6 : j = 4 + 4 * x + 1 + 1
          · rw [if_pos e6, show j = 6 + 4 * x by omega, lay_P2 hp]
            show arI 4 AC = eA (AC 0, 4, inA (St.I σ00 (100 + x)))
            rw [σ00_I (by omega)]
          · rw [if_neg e6]
            by_cases e7 : j = 4 + 4 * x + 1 + 2
            · rw [if_pos e7, show j = 7 + 4 * x by omega, lay_P3 hp]
              show arI 4 AC = eA (AC 0, 4, inA (St.I σ00 (200 + x)))
              rw [σ00_I (by omega)]
            · rw [if_neg e7]
              have hj2 : j < 4 + 4 * x := by omega
              refine (wN_E (w := wC AC ad x) hj2).trans ?_
              show (if j = 3 then _ else lay AC (Γ0 ad) σ00 j) = _
              rw [if_neg e3]
              exact lay_adC hA (by omega) hj2 e3
theorem def_P : ∀ j, j < 9 → defaultValue (e_P j) = vp_V [.int 0, .long 0, .null, .int 0, .null, .null, .int 0, .int 0, .int 0] j := by
  intro j hj
  match j, hj with
  | 0, _ => rfl
  | 1, _ => rfl
  | 2, _ => rfl
  | 3, _ => rfl
  | 4, _ => rfl
  | 5, _ => rfl
  | 6, _ => rfl
  | 7, _ => rfl
  | 8, _ => rfl
abbrev LR0 : va_E := .inr (0, [.null, .null, .null, .int 0, .int 0])
abbrev rm_LR_init : Room := { frames := 2, cells := 323, slots := 2160, locals := 60 }
set_option maxRecDepth 100000 in
set_option maxHeartbeats 4000000 in
theorem c_LR_init {l : Launch} {D : va_G} {AC : Nat → ClassId} {lo : Nat} {a : Nat} {post : Option Value → Wst → Prop} {thr : String → Wst → Prop} (h : ∀ ad, ad 0 = a → post none (wC AC ad 80)) : Ct l y_LR_init hd_LR_init rm_LR_init D AC lo [.ref a] (1, fun _ => a, fun _ => LR0) post thr := by
  refine Ct.of (by decide) (Nat.le_of_ble_eq_true rfl) ?_
  intro p e s m args below meth c hadm hX
  have loop : ∀ r p' ad, p' + r = 80 → ad 0 = a → G p l e rm_LR_init s m args below meth c 2 D lo post thr (wC AC ad p') (4 * r) (25 * r) 33 [(1, .int (Int32.ofNat p')), (0, .ref a)] [] := by
    intro r
    induction r with
    | zero =>
      intro p' ad hp ha
      obtain rfl : p' = 80 := by omega
      refine g_iload_n hX d_LR_init_33 rfl 0 rfl ?_
      refine g_bipush (v := 80) hX d_LR_init_34 (by decide) ?_
      refine g_icmp_ge (tgt := 58) hX d_LR_init_36 rfl (fun _ => ?_) (fun z => absurd (by decide) z)
      exact g_vret hX rfl d_LR_init_58 (h ad ha)
    | succ r ih =>
      intro p' ad hp ha
      have hx := nI_toInt (n := p') (by omega)
      refine g_iload_n hX d_LR_init_33 rfl 0 rfl ?_
      refine g_bipush (v := 80) hX d_LR_init_34 (by decide) ?_
      refine g_icmp_ge (tgt := 58) hX d_LR_init_36 rfl (fun z => absurd z (by rw [Int32.le_iff_toInt_le]; have z2 : (Int32.ofNat p').toInt = p' := Int32.toInt_ofNat_of_lt (by omega); rw [z2]; show ¬ ((80 : Int) ≤ _); omega)) (fun _ => ?_)
      refine g_aload_n hX d_LR_init_39 rfl 1 rfl ?_
      refine g_getf (i := 0) (kf := 2) (v := .ref (ad 3)) hX (by show 0 < 4 + _; omega) ha (show (wC AC ad p').2.2 0 = .inr (0, [.ref (ad 1), .ref (ad 2), .ref (ad 3), .int 0, .int 0]) from rfl) rfl in_LR (by decide) t_100 (Or.inl rfl) rfl d_LR_init_40 ?_
      refine g_iload_n hX d_LR_init_43 rfl 0 rfl ?_
      refine g_new (k := 4 * r + 3) (n := 25 * r + 16) (ci := 1) (fs := [.int 0, .long 0, .null, .int 0, .null, .null, .int 0, .int 0, .int 0]) hX rfl in_P ty_P t_33 t_35 t_2 def_P d_LR_init_44 (fun q => ?_)
      refine g_dup hX d_LR_init_47 rfl ?_
      refine g_callIN (k := 4 * r) (n := 25 * r) (a := q) (As := []) (rest := [.ref q, .int (Int32.ofNat p'), .ref (ad 3)]) (post2 := fun v w' => ∃ q1 q2 q3, v = none ∧ w' = parW AC (wN (wC AC ad p') q par0) (4 + 4 * p') q1 q2 q3) (thr2 := fun _ _ => False) hX (c_P_init (w := wN (wC AC ad p') q par0) (i := 4 + 4 * p') (Nat.lt_succ_self _) (wN_ad1 (w := wC AC ad p')) (wN_E1 (w := wC AC ad p')) (fun q1 q2 q3 => ⟨q1, q2, q3, rfl, rfl⟩)) hdT_P_init t_2 n_36 t_37 rfl ⟨⟨by decide, by decide⟩, np_P_init⟩ ⟨Nat.le_of_ble_eq_true rfl, Nat.le_of_ble_eq_true rfl⟩ (Nat.le_of_ble_eq_true rfl) d_LR_init_48 rfl ?_ (fun _ _ z => z.elim)
      rintro _ _ ⟨q1, q2, q3, rfl, rfl⟩
      have hl3 : 3 < (parW AC (wN (wC AC ad p') q par0) (4 + 4 * p') q1 q2 q3).1 := by show 3 < 4 + 4 * p' + 1 + 3; omega
      have hE3 : (parW AC (wN (wC AC ad p') q par0) (4 + 4 * p') q1 q2 q3).2.2 3 = .inl (AC 4, 80, rfA (fun j => if j < p' then some (ad (4 + 4 * j)) else none)) := by
        show (if 3 = 4 + 4 * p' then _ else if 3 = 4 + 4 * p' + 1 then _ else if 3 = 4 + 4 * p' + 1 + 1 then _ else if 3 = 4 + 4 * p' + 1 + 2 then _ else (wN (wC AC ad p') q par0).2.2 3) = _
        rw [if_neg (by omega), if_neg (by omega), if_neg (by omega), if_neg (by omega), wN_E (w := wC AC ad p') (by show 3 < 4 + _; omega)]
        rfl
      have hA3 : (parW AC (wN (wC AC ad p') q par0) (4 + 4 * p') q1 q2 q3).2.1 3 = ad 3 := by
        show (if 3 = 4 + 4 * p' + 1 then _ else if 3 = 4 + 4 * p' + 1 + 1 then _ else if 3 = 4 + 4 * p' + 1 + 2 then _ else (wN (wC AC ad p') q par0).2.1 3) = _
        rw [if_neg (by omega), if_neg (by omega), if_neg (by omega), wN_ad (w := wC AC ad p') (by show 3 < 4 + _; omega)]
        rfl
      have hAp : (parW AC (wN (wC AC ad p') q par0) (4 + 4 * p') q1 q2 q3).2.1 (4 + 4 * p') = q := by
        show (if 4 + 4 * p' = 4 + 4 * p' + 1 then _ else if 4 + 4 * p' = 4 + 4 * p' + 1 + 1 then _ else if 4 + 4 * p' = 4 + 4 * p' + 1 + 2 then _ else (wN (wC AC ad p') q par0).2.1 (4 + 4 * p')) = _
        rw [if_neg (by omega), if_neg (by omega), if_neg (by omega)]
        exact wN_ad1 (w := wC AC ad p')
      refine g_aastS (i := 3) (j := 4 + 4 * p') (ci := 1) 4 hX hl3 hA3 hE3 rfl (by show 4 + 4 * p' < 4 + 4 * p' + 1 + 3; omega) hAp (if_pos rfl) rfl (vp_in_nI (n := p') (by omega) (by decide)) d_LR_init_51 rfl ?_
      refine g_eqw (wC_step (by omega) (Int32.toNatClampNeg_ofNat_of_lt (by omega))) ?_
      refine g_iinc (v := Int32.ofNat (p' + 1)) hX d_LR_init_52 0 rfl (Int32.ofNat_add p' 1).symm (by decide) rfl ?_
      refine g_goto (tgt := 33) hX d_LR_init_55 rfl ?_
      exact ih (p' + 1) _ (by omega) (by unfold adP; rw [if_neg (by omega), if_neg (by omega), if_neg (by omega), if_neg (by omega)]; exact ha)
  show G p l e rm_LR_init s m args below meth c 2 D lo post thr (1, fun _ => a, fun _ => LR0) 323 2160 0 [(0, .ref a)] []
  refine g_aload_n hX d_LR_init_0 rfl 0 rfl ?_
  refine g_objInit hX t_28 t_29 t_30 (Nat.le_of_ble_eq_true rfl) (Nat.le_of_ble_eq_true rfl) d_LR_init_1 ?_
  refine g_aload_n hX d_LR_init_4 rfl 0 rfl ?_
  refine g_bipush (v := 40) hX d_LR_init_5 (by decide) ?_
  refine g_newq (k := 322) (n := 2120) (N1 := 40) 3 hX t_31 rfl (by decide) rfl (by decide) d_LR_init_7 hX.2.1.2.2.2.2.2.2.1 (fun q1 => ?_)
  refine g_putF (i := 0) (kf := 0) (ty := .array (.object "LandRegister$Deed")) hX (by show 0 < _ + 1; omega) rfl rfl rfl in_LR ty_LR nm_LR (by decide) t_98 (Or.inl rfl) rfl rfl rfl (by decide +kernel) rfl rfl (by show _ < List.length _; simp) d_LR_init_10 rfl ?_
  refine g_aload_n hX d_LR_init_13 rfl 0 rfl ?_
  refine g_bipush (v := 40) hX d_LR_init_14 (by decide) ?_
  refine g_newq (k := 321) (n := 2080) (N1 := 40) 3 hX t_31 rfl (by decide) rfl (by decide) d_LR_init_16 hX.2.1.2.2.2.2.2.2.1 (fun q2 => ?_)
  refine g_putF (i := 0) (kf := 1) (ty := .array (.object "LandRegister$Deed")) hX (by show 0 < _ + 1; omega) rfl rfl rfl in_LR ty_LR nm_LR (by decide) t_99 (Or.inl rfl) rfl rfl rfl (by decide +kernel) rfl rfl (by show _ < List.length _; simp) d_LR_init_19 rfl ?_
  refine g_aload_n hX d_LR_init_22 rfl 0 rfl ?_
  refine g_bipush (v := 80) hX d_LR_init_23 (by decide) ?_
  refine g_newq (k := 320) (n := 2000) (N1 := 80) 4 hX t_33 rfl (by decide) rfl (by decide) d_LR_init_25 hX.2.1.2.2.2.2.2.2.2 (fun q3 => ?_)
  refine g_putF (i := 0) (kf := 2) (ty := .array (.object "LandRegister$Parcel")) hX (by show 0 < _ + 1; omega) rfl rfl rfl in_LR ty_LR nm_LR (by decide) t_100 (Or.inl rfl) rfl rfl rfl (by decide +kernel) rfl rfl (by show _ < List.length _; simp) d_LR_init_28 rfl ?_
  refine g_iconst (v := 0) hX d_LR_init_31 (by decide) ?_
  refine g_istore_n (i := 1) hX d_LR_init_32 rfl (by decide) rfl ?_
  refine g_eqw (w' := wC AC (fun j => if j = 0 then a else if j = 1 then q1 else if j = 2 then q2 else q3) 0) (ww_ext rfl (fun j hj => ?_)) ?_
  · have hj : j < 4 := hj
    obtain rfl | rfl | rfl | rfl : j = 0 ∨ j = 1 ∨ j = 2 ∨ j = 3 := by omega
    · exact ⟨rfl, rfl⟩
    · exact ⟨rfl, rfl⟩
    · exact ⟨rfl, rfl⟩
    · refine ⟨rfl, ?_⟩
      show eA (AC 4, 80, rfA (fun _ => none)) = eA (AC 4, 80, rfA (fun j => if j < 0 then _ else none))
      congr 4
  · exact loop 80 0 _ rfl rfl

