/-! The constructors, and the start of the law -/
section CTOR
variable {p : Program} {l : Launch} {e : Env} {R : Room} {s : State} {m : MethodId} {args : Array Value} {below : List Frame} {meth : Method} {c : Code} {nL : Nat} {D : va_G} {AC : Nat → ClassId} {lo : Nat} {post : Option Value → Wst → Prop} {thr : String → Wst → Prop} {w w' : Wst} {k n pc : Nat} {lv : List (Nat × Value)} {st : List Value}
theorem g_eqw (h : ww w = ww w') (kk : G p l e R s m args below meth c nL D lo post thr w' k n pc lv st) : G p l e R s m args below meth c nL D lo post thr w k n pc lv st :=
  fun H locs ls cells slots hb => kk H locs ls cells slots ⟨hb.1, by have z := hb.2.1; unfold wP at z ⊢; rw [h] at z; exact z, hb.2.2⟩
theorem ww_ext (hN : w.1 = w'.1) (h : ∀ i, i < w.1 → w.2.1 i = w'.2.1 i ∧ w.2.2 i = w'.2.2 i) : ww w = ww w' := by
  unfold ww wl
  rw [← hN]
  apply List.map_congr_left
  intro i hi
  obtain ⟨a, b⟩ := h i (List.mem_range.mp hi)
  rw [a, b]
theorem wN_E {q i : Nat} {x : va_E} (h : i < w.1) : (wN w q x).2.2 i = w.2.2 i := va_up_ne _ _ (Nat.ne_of_lt h)
theorem wN_ad {q i : Nat} {x : va_E} (h : i < w.1) : (wN w q x).2.1 i = w.2.1 i := va_up_ne _ _ (Nat.ne_of_lt h)
theorem wN_E1 {q : Nat} {x : va_E} : (wN w q x).2.2 w.1 = x := va_up_self _ _ _
theorem wN_ad1 {q : Nat} {x : va_E} : (wN w q x).2.1 w.1 = q := va_up_self _ _ _
theorem wS_E1 {i : Nat} {x : va_E} : (wS w i x).2.2 i = x := va_up_self _ _ _
theorem wS_E {i j : Nat} {x : va_E} (h : j ≠ i) : (wS w i x).2.2 j = w.2.2 j := va_up_ne _ _ h
end CTOR
abbrev arL (n : Nat) (AC : Nat → ClassId) : va_E := .inl (AC 1, n, .inr (.inl (fun _ => 0)))
abbrev arI (n : Nat) (AC : Nat → ClassId) : va_E := .inl (AC 0, n, .inl (fun _ => 0))
abbrev arZ (n : Nat) (AC : Nat → ClassId) : va_E := .inl (AC 2, n, .inl (fun _ => 0))
abbrev par0 : va_E := .inr (1, [.int 0, .long 0, .null, .int 0, .null, .null, .int 0, .int 0, .int 0])
abbrev par1 (a b d : Nat) : va_E := .inr (1, [.int 0, .long 0, .ref a, .int 0, .ref b, .ref d, .int 0, .int (-1), .int (-1)])
/-- a parcel's cells, made at the end of the world -/
def parW (AC : Nat → ClassId) (w : Wst) (i q1 q2 q3 : Nat) : Wst :=
  (w.1 + 3, fun j => if j = w.1 then q1 else if j = w.1 + 1 then q2 else if j = w.1 + 2 then q3 else w.2.1 j,
   fun j => if j = i then par1 q1 q2 q3 else if j = w.1 then arL 8 AC else if j = w.1 + 1 then arI 4 AC else if j = w.1 + 2 then arI 4 AC else w.2.2 j)
abbrev rm_P_init : Room := { frames := 1, cells := 3, slots := 16, locals := 20 }
set_option maxRecDepth 100000 in
set_option maxHeartbeats 4000000 in
theorem c_P_init {l : Launch} {D : va_G} {AC : Nat → ClassId} {lo : Nat} {w : Wst} {i a : Nat} {post : Option Value → Wst → Prop} {thr : String → Wst → Prop} (hi : i < w.1) (ha : w.2.1 i = a) (he : w.2.2 i = par0) (h : ∀ q1 q2 q3, post none (parW AC w i q1 q2 q3)) : Ct l y_P_init hd_P_init rm_P_init D AC lo [.ref a] w post thr := by
  refine Ct.of (by decide) (Nat.le_of_ble_eq_true rfl) ?_
  intro p e s m args below meth c hadm hX
  show G p l e rm_P_init s m args below meth c 1 D lo post thr w 3 16 0 [(0, .ref a)] []
  refine g_aload_n hX d_P_init_0 rfl 0 rfl ?_
  refine g_objInit hX t_39 t_29 t_30 (Nat.le_of_ble_eq_true rfl) (Nat.le_of_ble_eq_true rfl) d_P_init_1 ?_
  refine g_aload_n hX d_P_init_4 rfl 0 rfl ?_
  refine g_bipush (v := 8) hX d_P_init_5 (by decide) ?_
  refine g_newaL (k := 2) (n := 8) (N1 := 8) hX t_96 (by decide) rfl (by decide) d_P_init_7 (fun q1 => ?_)
  refine g_putF (i := i) (kf := 2) (ty := .array .long) hX (Nat.lt_succ_of_lt hi) ((wN_ad (q := q1) (x := arL 8 AC) hi).trans ha) ((wN_E (q := q1) (x := arL 8 AC) hi).trans he) rfl in_P ty_P nm_P (by decide) t_51 (Or.inl rfl) rfl rfl rfl (by decide +kernel) rfl rfl (by show _ < List.length _; simp) d_P_init_9 rfl ?_
  refine g_aload_n hX d_P_init_12 rfl 0 rfl ?_
  refine g_iconst (v := 4) hX d_P_init_13 (by decide) ?_
  refine g_newaI (k := 1) (n := 4) (N1 := 4) hX t_97 (by decide) rfl (by decide) d_P_init_14 (fun q2 => ?_)
  have hi3 : i < (wN w q1 (arL 8 AC)).1 := Nat.lt_succ_of_lt hi
  refine g_putF (i := i) (kf := 4) (ty := .array .int) hX (Nat.lt_succ_of_lt hi3) ((wN_ad (w := wS (wN w q1 (arL 8 AC)) i _) (q := q2) (x := arI 4 AC) hi3).trans ((wN_ad (q := q1) (x := arL 8 AC) hi).trans ha)) ((wN_E (w := wS (wN w q1 (arL 8 AC)) i _) (q := q2) (x := arI 4 AC) hi3).trans wS_E1) rfl in_P ty_P nm_P (by decide) t_59 (Or.inl rfl) rfl rfl rfl (by decide +kernel) rfl rfl (by show _ < List.length _; simp) d_P_init_16 rfl ?_
  refine g_aload_n hX d_P_init_19 rfl 0 rfl ?_
  refine g_iconst (v := 4) hX d_P_init_20 (by decide) ?_
  refine g_newaI (k := 0) (n := 0) (N1 := 4) hX t_97 (by decide) rfl (by decide) d_P_init_21 (fun q3 => ?_)
  have hi5 : i < (wN (wN w q1 (arL 8 AC)) q2 (arI 4 AC)).1 := Nat.lt_succ_of_lt hi3
  refine g_putF (i := i) (kf := 5) (ty := .array .int) hX (Nat.lt_succ_of_lt hi5) ((wN_ad (w := wS (wN (wS (wN w q1 (arL 8 AC)) i _) q2 (arI 4 AC)) i _) (q := q3) (x := arI 4 AC) hi5).trans ((wN_ad (w := wS (wN w q1 (arL 8 AC)) i _) (q := q2) (x := arI 4 AC) hi3).trans ((wN_ad (q := q1) (x := arL 8 AC) hi).trans ha))) ((wN_E (w := wS (wN (wS (wN w q1 (arL 8 AC)) i _) q2 (arI 4 AC)) i _) (q := q3) (x := arI 4 AC) hi5).trans wS_E1) rfl in_P ty_P nm_P (by decide) t_62 (Or.inl rfl) rfl rfl rfl (by decide +kernel) rfl rfl (by show _ < List.length _; simp) d_P_init_23 rfl ?_
  have hi6 : i < w.1 + 1 + 1 + 1 := by omega
  have ha6 : va_up (va_up (va_up w.2.1 w.1 q1) (w.1 + 1) q2) (w.1 + 1 + 1) q3 i = a := by rw [va_up_ne _ _ (by omega), va_up_ne _ _ (by omega), va_up_ne _ _ (by omega)]; exact ha
  refine g_aload_n hX d_P_init_26 rfl 0 rfl ?_
  refine g_iconst (v := -1) hX d_P_init_27 (by decide) ?_
  refine g_putf (i := i) (kf := 7) (ty := .int) hX hi6 ha6 wS_E1 rfl in_P ty_P nm_P (by decide) t_70 (Or.inl rfl) rfl (by decide +kernel) rfl rfl (by show _ < List.length _; simp) d_P_init_28 rfl ?_
  refine g_aload_n hX d_P_init_31 rfl 0 rfl ?_
  refine g_iconst (v := -1) hX d_P_init_32 (by decide) ?_
  refine g_putf (i := i) (kf := 8) (ty := .int) hX hi6 ha6 wS_E1 rfl in_P ty_P nm_P (by decide) t_74 (Or.inl rfl) rfl (by decide +kernel) rfl rfl (by show _ < List.length _; simp) d_P_init_33 rfl ?_
  refine g_eqw (w' := parW AC w i q1 q2 q3) (ww_ext rfl (fun j hj => ⟨?_, ?_⟩)) ?_
  · show va_up (va_up (va_up w.2.1 w.1 q1) (w.1 + 1) q2) (w.1 + 1 + 1) q3 j = if j = w.1 then q1 else if j = w.1 + 1 then q2 else if j = w.1 + 2 then q3 else w.2.1 j
    simp only [va_up]
    repeat' split
    all_goals first | rfl | omega
  · by_cases e0 : j = i
    · subst e0
      refine wS_E1.trans ?_
      show _ = if j = j then par1 q1 q2 q3 else _
      rw [if_pos rfl]
      rfl
    · refine (wS_E e0).trans ((wS_E e0).trans ((wS_E e0).trans ?_))
      show _ = if j = i then _ else if j = w.1 then arL 8 AC else if j = w.1 + 1 then arI 4 AC else if j = w.1 + 2 then arI 4 AC else w.2.2 j
      rw [if_neg e0]
      by_cases e3 : j = w.1 + 2
      · subst e3
        rw [if_neg (by omega), if_neg (by omega), if_pos rfl]
        exact wN_E1
      · have hj3 : j < w.1 + 1 + 1 + 1 := hj
        refine (wN_E (by show j < w.1 + 1 + 1; omega)).trans ((wS_E e0).trans ?_)
        by_cases e2 : j = w.1 + 1
        · subst e2
          rw [if_neg (by omega), if_pos rfl]
          exact wN_E1
        · refine (wN_E (by show j < w.1 + 1; omega)).trans ((wS_E e0).trans ?_)
          by_cases e1 : j = w.1
          · subst e1
            rw [if_pos rfl]
            exact wN_E1
          · rw [if_neg e1, if_neg e2, if_neg e3]
            exact wN_E (by omega)
  · exact g_vret hX rfl d_P_init_36 (h q1 q2 q3)

abbrev eO (x : Nat × List Value) : va_E := .inr x
abbrev eA (x : ClassId × Nat × ((Nat → Int32) ⊕ (Nat → Int64) ⊕ (Nat → UInt32) ⊕ (Nat → UInt64) ⊕ (Nat → Option Nat))) : va_E := .inl x
abbrev Γ0 (ad : Nat → Nat) : Ev := (ad, fun _ => 0, 0)
abbrev σ00 : St := (fun k _ => if k = 4 ∨ k = 5 then -1 else 0, fun _ _ => 0, fun _ _ => none)
theorem σ00_I {k : Nat} (h : 6 ≤ k) : St.I σ00 k = fun _ => 0 := funext fun _ => if_neg (by omega)
/-- the object with p of its parcels made -/
def wC (AC : Nat → ClassId) (ad : Nat → Nat) (p : Nat) : Wst :=
  (4 + 4 * p, ad, fun i => if i = 3 then .inl (AC 4, 80, rfA (fun j => if j < p then some (ad (4 + 4 * j)) else none)) else lay AC (Γ0 ad) σ00 i)
theorem lay_adC {AC : Nat → ClassId} {ad ad' : Nat → Nat} {p j : Nat} (h : ∀ i, i < 4 + 4 * p → ad i = ad' i) (hp : p ≤ 80) (hj : j < 4 + 4 * p) (h3 : j ≠ 3) : lay AC (Γ0 ad) σ00 j = lay AC (Γ0 ad') σ00 j := by
  by_cases h4 : j < 4
  · rw [lay_0 h4, lay_0 h4]
    obtain rfl | rfl | rfl : j = 0 ∨ j = 1 ∨ j = 2 := by omega
    · show eO (0, [.ref (ad 1), .ref (ad 2), .ref (ad 3), _, _]) = eO (0, [.ref (ad' 1), .ref (ad' 2), .ref (ad' 3), _, _])
      rw [h 1 (by omega), h 2 (by omega), h 3 (by omega)]
    · rfl
    · rfl
  · obtain ⟨q, r, rfl, hr⟩ : ∃ q r, j = 4 + r + 4 * q ∧ r < 4 := ⟨(j - 4) / 4, (j - 4) % 4, by omega, by omega⟩
    rw [lay_P (by omega) hr, lay_P (by omega) hr]
    obtain rfl | rfl | rfl | rfl : r = 0 ∨ r = 1 ∨ r = 2 ∨ r = 3 := by omega
    · show eO (1, [_, _, .ref (ad (5 + 4 * q)), _, .ref (ad (6 + 4 * q)), .ref (ad (7 + 4 * q)), _, _, _]) = eO (1, [_, _, .ref (ad' (5 + 4 * q)), _, .ref (ad' (6 + 4 * q)), .ref (ad' (7 + 4 * q)), _, _, _])
      rw [h _ (by omega), h _ (by omega), h _ (by omega)]
    · rfl
    · rfl
    · rfl
/-- the addresses with parcel p's cells -/
def adP (ad : Nat → Nat) (p q q1 q2 q3 : Nat) : Nat → Nat := fun j => if j = 4 + 4 * p then q else if j = 5 + 4 * p then q1 else if j = 6 + 4 * p then q2 else if j = 7 + 4 * p then q3 else ad j
theorem wC_step {AC : Nat → ClassId} {ad : Nat → Nat} {p q q1 q2 q3 : Nat} (hp : p < 80) {x : Nat} (hx : x = p) :
    ww (wS (parW AC (wN (wC AC ad p) q par0) (4 + 4 * p) q1 q2 q3) 3 (.inl (AC 4, 80, rfA (va_up (fun j => if j < p then some (ad (4 + 4 * j)) else none) x (some q))))) = ww (wC AC (adP ad p q q1 q2 q3) (p + 1)) := by
  subst hx
  have hA : ∀ i, i < 4 + 4 * x → ad i = adP ad x q q1 q2 q3 i := fun i hi => by unfold adP; rw [if_neg (by omega), if_neg (by omega), if_neg (by omega), if_neg (by omega)]
  refine ww_ext (by show 4 + 4 * x + 1 + 3 = 4 + 4 * (x + 1); omega) (fun j hj => ⟨?_, ?_⟩)
  · show (if j = 4 + 4 * x + 1 then q1 else if j = 4 + 4 * x + 1 + 1 then q2 else if j = 4 + 4 * x + 1 + 2 then q3 else if j = 4 + 4 * x then q else ad j) = if j = 4 + 4 * x then q else if j = 5 + 4 * x then q1 else if j = 6 + 4 * x then q2 else if j = 7 + 4 * x then q3 else ad j
    repeat' split
    all_goals first | rfl | omega
  · have hj : j < 4 + 4 * x + 1 + 3 := hj
    by_cases e3 : j = 3
    · subst e3
      refine wS_E1.trans ?_
      show _ = if 3 = 3 then eA (AC 4, 80, rfA (fun j => if j < x + 1 then some (adP ad x q q1 q2 q3 (4 + 4 * j)) else none)) else lay AC (Γ0 (adP ad x q q1 q2 q3)) σ00 3
      rw [if_pos rfl]
      congr 4
      funext j
      by_cases e : j = x
      · subst e
        rw [va_up_self, if_pos (by omega)]
        show _ = some (if 4 + 4 * j = 4 + 4 * j then q else _)
        rw [if_pos rfl]
      · rw [va_up_ne _ _ e]
        by_cases e2 : j < x
        · rw [if_pos e2, if_pos (by omega), hA _ (by omega)]
        · rw [if_neg e2, if_neg (by omega)]
    · refine (wS_E e3).trans ?_
      show _ = if j = 3 then _ else lay AC (Γ0 (adP ad x q q1 q2 q3)) σ00 j
      rw [if_neg e3]
      show (if j = 4 + 4 * x then par1 q1 q2 q3 else if j = 4 + 4 * x + 1 then arL 8 AC else if j = 4 + 4 * x + 1 + 1 then arI 4 AC else if j = 4 + 4 * x + 1 + 2 then arI 4 AC else (wN (wC AC ad x) q par0).2.2 j) = _
      by_cases e4 : j = 4 + 4 * x
      · subst e4
        rw [if_pos rfl, lay_P0 hp]
        show _ = eO (1, [_, _, .ref (adP ad x q q1 q2 q3 (5 + 4 * x)), _, .ref (adP ad x q q1 q2 q3 (6 + 4 * x)), .ref (adP ad x q q1 q2 q3 (7 + 4 * x)), _, _, _])
        rw [show adP ad x q q1 q2 q3 (5 + 4 * x) = q1 by unfold adP; rw [if_neg (by omega), if_pos rfl], show adP ad x q q1 q2 q3 (6 + 4 * x) = q2 by unfold adP; rw [if_neg (by omega), if_neg (by omega), if_pos rfl], show adP ad x q q1 q2 q3 (7 + 4 * x) = q3 by unfold adP; rw [if_neg (by omega), if_neg (by omega), if_neg (by omega), if_pos rfl]]
        rfl
      · rw [if_neg e4]
        by_cases e5 : j = 4 + 4 * x + 1
        · rw [if_pos e5, show j = 5 + 4 * x by omega, lay_P1 hp]
          rfl
        · rw [if_neg e5]
          by_cases e6 : j = 4 + 4 * x + 1 + 1
          · rw [if_pos e6, show j = 6 + 4 * x by omega, lay_P2 hp]
            show arI 4 AC = eA (AC 0, 4, inA (St.I σ00 (100 + x)))
            rw [σ00_I (by omega)]
          · rw [if_neg e6]
            by_cases e7 : j = 4 + 4 * x + 1 + 2
            · rw [if_pos e7, show j = 7 + 4 * x by omega, lay_P3 hp]
              show arI 4 AC = eA (AC 0, 4, inA (St.I σ00 (200 + x)))
              rw [σ00_I (by omega)]
            · rw [if_neg e7]
              have hj2 : j < 4 + 4 * x := by omega
              refine (wN_E (w := wC AC ad x) hj2).trans ?_
              show (if j = 3 then _ else lay AC (Γ0 ad) σ00 j) = _
              rw [if_neg e3]
              exact lay_adC hA (by omega) hj2 e3
theorem def_P : ∀ j, j < 9 → defaultValue (e_P j) = vp_V [.int 0, .long 0, .null, .int 0, .null, .null, .int 0, .int 0, .int 0] j := by
  intro j hj
  match j, hj with
  | 0, _ => rfl
  | 1, _ => rfl
  | 2, _ => rfl
  | 3, _ => rfl
  | 4, _ => rfl
  | 5, _ => rfl
  | 6, _ => rfl
  | 7, _ => rfl
  | 8, _ => rfl
abbrev LR0 : va_E := .inr (0, [.null, .null, .null, .int 0, .int 0])
abbrev rm_LR_init : Room := { frames := 2, cells := 323, slots := 2160, locals := 60 }
set_option maxRecDepth 100000 in
set_option maxHeartbeats 4000000 in
theorem c_LR_init {l : Launch} {D : va_G} {AC : Nat → ClassId} {lo : Nat} {a : Nat} {post : Option Value → Wst → Prop} {thr : String → Wst → Prop} (h : ∀ ad, ad 0 = a → post none (wC AC ad 80)) : Ct l y_LR_init hd_LR_init rm_LR_init D AC lo [.ref a] (1, fun _ => a, fun _ => LR0) post thr := by
  refine Ct.of (by decide) (Nat.le_of_ble_eq_true rfl) ?_
  intro p e s m args below meth c hadm hX
  have loop : ∀ r p' ad, p' + r = 80 → ad 0 = a → G p l e rm_LR_init s m args below meth c 2 D lo post thr (wC AC ad p') (4 * r) (25 * r) 33 [(1, .int (Int32.ofNat p')), (0, .ref a)] [] := by
    intro r
    induction r with
    | zero =>
      intro p' ad hp ha
      obtain rfl : p' = 80 := by omega
      refine g_iload_n hX d_LR_init_33 rfl 0 rfl ?_
      refine g_bipush (v := 80) hX d_LR_init_34 (by decide) ?_
      refine g_icmp_ge (tgt := 58) hX d_LR_init_36 rfl (fun _ => ?_) (fun z => absurd (by decide) z)
      exact g_vret hX rfl d_LR_init_58 (h ad ha)
    | succ r ih =>
      intro p' ad hp ha
      have hx := nI_toInt (n := p') (by omega)
      refine g_iload_n hX d_LR_init_33 rfl 0 rfl ?_
      refine g_bipush (v := 80) hX d_LR_init_34 (by decide) ?_
      refine g_icmp_ge (tgt := 58) hX d_LR_init_36 rfl (fun z => absurd z (by rw [Int32.le_iff_toInt_le]; have z2 : (Int32.ofNat p').toInt = p' := Int32.toInt_ofNat_of_lt (by omega); rw [z2]; show ¬ ((80 : Int) ≤ _); omega)) (fun _ => ?_)
      refine g_aload_n hX d_LR_init_39 rfl 1 rfl ?_
      refine g_getf (i := 0) (kf := 2) (v := .ref (ad 3)) hX (by show 0 < 4 + _; omega) ha (show (wC AC ad p').2.2 0 = .inr (0, [.ref (ad 1), .ref (ad 2), .ref (ad 3), .int 0, .int 0]) from rfl) rfl in_LR (by decide) t_100 (Or.inl rfl) rfl d_LR_init_40 ?_
      refine g_iload_n hX d_LR_init_43 rfl 0 rfl ?_
      refine g_new (k := 4 * r + 3) (n := 25 * r + 16) (ci := 1) (fs := [.int 0, .long 0, .null, .int 0, .null, .null, .int 0, .int 0, .int 0]) hX rfl in_P ty_P t_33 t_35 t_2 def_P d_LR_init_44 (fun q => ?_)
      refine g_dup hX d_LR_init_47 rfl ?_
      refine g_callIN (k := 4 * r) (n := 25 * r) (a := q) (As := []) (rest := [.ref q, .int (Int32.ofNat p'), .ref (ad 3)]) (post2 := fun v w' => ∃ q1 q2 q3, v = none ∧ w' = parW AC (wN (wC AC ad p') q par0) (4 + 4 * p') q1 q2 q3) (thr2 := fun _ _ => False) hX (c_P_init (w := wN (wC AC ad p') q par0) (i := 4 + 4 * p') (Nat.lt_succ_self _) (wN_ad1 (w := wC AC ad p')) (wN_E1 (w := wC AC ad p')) (fun q1 q2 q3 => ⟨q1, q2, q3, rfl, rfl⟩)) hdT_P_init t_2 n_36 t_37 rfl ⟨⟨by decide, by decide⟩, np_P_init⟩ ⟨Nat.le_of_ble_eq_true rfl, Nat.le_of_ble_eq_true rfl⟩ (Nat.le_of_ble_eq_true rfl) d_LR_init_48 rfl ?_ (fun _ _ z => z.elim)
      rintro _ _ ⟨q1, q2, q3, rfl, rfl⟩
      have hl3 : 3 < (parW AC (wN (wC AC ad p') q par0) (4 + 4 * p') q1 q2 q3).1 := by show 3 < 4 + 4 * p' + 1 + 3; omega
      have hE3 : (parW AC (wN (wC AC ad p') q par0) (4 + 4 * p') q1 q2 q3).2.2 3 = .inl (AC 4, 80, rfA (fun j => if j < p' then some (ad (4 + 4 * j)) else none)) := by
        show (if 3 = 4 + 4 * p' then _ else if 3 = 4 + 4 * p' + 1 then _ else if 3 = 4 + 4 * p' + 1 + 1 then _ else if 3 = 4 + 4 * p' + 1 + 2 then _ else (wN (wC AC ad p') q par0).2.2 3) = _
        rw [if_neg (by omega), if_neg (by omega), if_neg (by omega), if_neg (by omega), wN_E (w := wC AC ad p') (by show 3 < 4 + _; omega)]
        rfl
      have hA3 : (parW AC (wN (wC AC ad p') q par0) (4 + 4 * p') q1 q2 q3).2.1 3 = ad 3 := by
        show (if 3 = 4 + 4 * p' + 1 then _ else if 3 = 4 + 4 * p' + 1 + 1 then _ else if 3 = 4 + 4 * p' + 1 + 2 then _ else (wN (wC AC ad p') q par0).2.1 3) = _
        rw [if_neg (by omega), if_neg (by omega), if_neg (by omega), wN_ad (w := wC AC ad p') (by show 3 < 4 + _; omega)]
        rfl
      have hAp : (parW AC (wN (wC AC ad p') q par0) (4 + 4 * p') q1 q2 q3).2.1 (4 + 4 * p') = q := by
        show (if 4 + 4 * p' = 4 + 4 * p' + 1 then _ else if 4 + 4 * p' = 4 + 4 * p' + 1 + 1 then _ else if 4 + 4 * p' = 4 + 4 * p' + 1 + 2 then _ else (wN (wC AC ad p') q par0).2.1 (4 + 4 * p')) = _
        rw [if_neg (by omega), if_neg (by omega), if_neg (by omega)]
        exact wN_ad1 (w := wC AC ad p')
      refine g_aastS (i := 3) (j := 4 + 4 * p') (ci := 1) 4 hX hl3 hA3 hE3 rfl (by show 4 + 4 * p' < 4 + 4 * p' + 1 + 3; omega) hAp (if_pos rfl) rfl (vp_in_nI (n := p') (by omega) (by decide)) d_LR_init_51 rfl ?_
      refine g_eqw (wC_step (by omega) (Int32.toNatClampNeg_ofNat_of_lt (by omega))) ?_
      refine g_iinc (v := Int32.ofNat (p' + 1)) hX d_LR_init_52 0 rfl (Int32.ofNat_add p' 1).symm (by decide) rfl ?_
      refine g_goto (tgt := 33) hX d_LR_init_55 rfl ?_
      exact ih (p' + 1) _ (by omega) (by unfold adP; rw [if_neg (by omega), if_neg (by omega), if_neg (by omega), if_neg (by omega)]; exact ha)
  show G p l e rm_LR_init s m args below meth c 2 D lo post thr (1, fun _ => a, fun _ => LR0) 323 2160 0 [(0, .ref a)] []
  refine g_aload_n hX d_LR_init_0 rfl 0 rfl ?_
  refine g_objInit hX t_28 t_29 t_30 (Nat.le_of_ble_eq_true rfl) (Nat.le_of_ble_eq_true rfl) d_LR_init_1 ?_
  refine g_aload_n hX d_LR_init_4 rfl 0 rfl ?_
  refine g_bipush (v := 40) hX d_LR_init_5 (by decide) ?_
  refine g_newq (k := 322) (n := 2120) (N1 := 40) 3 hX t_31 rfl (by decide) rfl (by decide) d_LR_init_7 hX.2.1.2.2.2.2.2.2.1 (fun q1 => ?_)
  refine g_putF (i := 0) (kf := 0) (ty := .array (.object "LandRegister$Deed")) hX (by show 0 < _ + 1; omega) rfl rfl rfl in_LR ty_LR nm_LR (by decide) t_98 (Or.inl rfl) rfl rfl rfl (by decide +kernel) rfl rfl (by show _ < List.length _; simp) d_LR_init_10 rfl ?_
  refine g_aload_n hX d_LR_init_13 rfl 0 rfl ?_
  refine g_bipush (v := 40) hX d_LR_init_14 (by decide) ?_
  refine g_newq (k := 321) (n := 2080) (N1 := 40) 3 hX t_31 rfl (by decide) rfl (by decide) d_LR_init_16 hX.2.1.2.2.2.2.2.2.1 (fun q2 => ?_)
  refine g_putF (i := 0) (kf := 1) (ty := .array (.object "LandRegister$Deed")) hX (by show 0 < _ + 1; omega) rfl rfl rfl in_LR ty_LR nm_LR (by decide) t_99 (Or.inl rfl) rfl rfl rfl (by decide +kernel) rfl rfl (by show _ < List.length _; simp) d_LR_init_19 rfl ?_
  refine g_aload_n hX d_LR_init_22 rfl 0 rfl ?_
  refine g_bipush (v := 80) hX d_LR_init_23 (by decide) ?_
  refine g_newq (k := 320) (n := 2000) (N1 := 80) 4 hX t_33 rfl (by decide) rfl (by decide) d_LR_init_25 hX.2.1.2.2.2.2.2.2.2 (fun q3 => ?_)
  refine g_putF (i := 0) (kf := 2) (ty := .array (.object "LandRegister$Parcel")) hX (by show 0 < _ + 1; omega) rfl rfl rfl in_LR ty_LR nm_LR (by decide) t_100 (Or.inl rfl) rfl rfl rfl (by decide +kernel) rfl rfl (by show _ < List.length _; simp) d_LR_init_28 rfl ?_
  refine g_iconst (v := 0) hX d_LR_init_31 (by decide) ?_
  refine g_istore_n (i := 1) hX d_LR_init_32 rfl (by decide) rfl ?_
  refine g_eqw (w' := wC AC (fun j => if j = 0 then a else if j = 1 then q1 else if j = 2 then q2 else q3) 0) (ww_ext rfl (fun j hj => ?_)) ?_
  · have hj : j < 4 := hj
    obtain rfl | rfl | rfl | rfl : j = 0 ∨ j = 1 ∨ j = 2 ∨ j = 3 := by omega
    · exact ⟨rfl, rfl⟩
    · exact ⟨rfl, rfl⟩
    · exact ⟨rfl, rfl⟩
    · refine ⟨rfl, ?_⟩
      show eA (AC 4, 80, rfA (fun _ => none)) = eA (AC 4, 80, rfA (fun j => if j < 0 then _ else none))
      congr 4
  · exact loop 80 0 _ rfl rfl

def mR (ad : Nat → Nat) (j k : Nat) : Value := if k < j then .ref (ad (325 + k)) else .null
/-- the model's fields with j of its arrays made -/
def mF (ad : Nat → Nat) (j : Nat) : List Value := [.int 0, .int 0, .int 0, mR ad j 0, mR ad j 1, mR ad j 2, mR ad j 3, mR ad j 4, mR ad j 5, mR ad j 6, mR ad j 7, mR ad j 8, mR ad j 9, mR ad j 10, mR ad j 11, mR ad j 12, mR ad j 13, mR ad j 14, mR ad j 15, mR ad j 16, mR ad j 17]
def wM (AC : Nat → ClassId) (ad : Nat → Nat) (j : Nat) : Wst := (325 + j, ad, fun i => if i = 324 then .inr (11, mF ad j) else lay AC (Γ0 ad) σ00 i)
theorem wM_E {AC : Nat → ClassId} {ad : Nat → Nat} {j : Nat} : (wM AC ad j).2.2 324 = .inr (11, mF ad j) := rfl
theorem lay_adM {AC : Nat → ClassId} {ad ad' : Nat → Nat} {j : Nat} (h : ∀ i, i < 325 → ad i = ad' i) (hj : j < 344) (h3 : j ≠ 324) : lay AC (Γ0 ad) σ00 j = lay AC (Γ0 ad') σ00 j := by
  by_cases e3 : j = 3
  · subst e3
    show eA (AC 4, 80, rfA (fun p => if p < 80 then some (ad (4 + 4 * p)) else none)) = eA (AC 4, 80, rfA (fun p => if p < 80 then some (ad' (4 + 4 * p)) else none))
    congr 4
    funext p
    by_cases e : p < 80
    · rw [if_pos e, if_pos e, h _ (by omega)]
    · rw [if_neg e, if_neg e]
  · by_cases e4 : j < 324
    · exact lay_adC (p := 80) (fun i hi => h i (by omega)) (by omega) (by omega) e3
    · obtain ⟨r, rfl⟩ : ∃ r, j = 324 + (r + 1) := ⟨j - 325, by omega⟩
      rw [lay_M (by omega), lay_M (by omega)]
      match r with
      | 0 => rfl
      | 1 => rfl
      | 2 => rfl
      | 3 => rfl
      | 4 => rfl
      | 5 => rfl
      | 6 => rfl
      | 7 => rfl
      | 8 => rfl
      | 9 => rfl
      | 10 => rfl
      | 11 => rfl
      | 12 => rfl
      | 13 => rfl
      | 14 => rfl
      | 15 => rfl
      | 16 => rfl
      | 17 => rfl
      | _ + 18 => rfl
theorem mF_step {ad : Nat → Nat} {j q : Nat} (hj : j < 18) : (mF ad j).set (3 + j) (.ref q) = mF (va_up ad (325 + j) q) (j + 1) := by
  match j, hj with
  | 0, _ => rfl
  | 1, _ => rfl
  | 2, _ => rfl
  | 3, _ => rfl
  | 4, _ => rfl
  | 5, _ => rfl
  | 6, _ => rfl
  | 7, _ => rfl
  | 8, _ => rfl
  | 9, _ => rfl
  | 10, _ => rfl
  | 11, _ => rfl
  | 12, _ => rfl
  | 13, _ => rfl
  | 14, _ => rfl
  | 15, _ => rfl
  | 16, _ => rfl
  | 17, _ => rfl
  | _ + 18, h => exact absurd h (by omega)
theorem wM_step {AC : Nat → ClassId} {ad ad0 : Nat → Nat} {j q : Nat} {E : va_E} (hj : j < 18) (h0 : ∀ i, i < 325 → ad i = ad0 i) (hE : ∀ ad', lay AC (Γ0 ad') σ00 (325 + j) = E) :
    ∃ ad', (∀ i, i < 325 → ad' i = ad0 i) ∧ ww (wS (wN (wM AC ad j) q E) 324 (.inr (11, (mF ad j).set (3 + j) (.ref q)))) = ww (wM AC ad' (j + 1)) := by
  have hA : ∀ i, i < 325 + j → ad i = va_up ad (325 + j) q i := fun i hi => (va_up_ne _ _ (by omega)).symm
  refine ⟨va_up ad (325 + j) q, fun i hi => (hA i (by omega)).symm.trans (h0 i hi), ww_ext rfl (fun i hi => ⟨rfl, ?_⟩)⟩
  have hi : i < 325 + j + 1 := hi
  by_cases e : i = 324
  · subst e
    refine wS_E1.trans ?_
    rw [mF_step hj]
    rfl
  · refine (wS_E e).trans ?_
    show _ = if i = 324 then _ else lay AC (Γ0 (va_up ad (325 + j) q)) σ00 i
    rw [if_neg e]
    by_cases e2 : i = 325 + j
    · subst e2
      rw [hE]
      exact wN_E1 (w := wM AC ad j)
    · refine (wN_E (w := wM AC ad j) (by show i < 325 + j; omega)).trans ?_
      show (if i = 324 then _ else lay AC (Γ0 ad) σ00 i) = _
      rw [if_neg e]
      exact lay_adM (fun i hi => hA i (by omega)) (by omega) e
/-- the world without the law's out -/
def wτ (AC : Nat → ClassId) (Γ : Ev) (σ : St) : Wst := (343, Γ.ad, lay AC Γ σ)
theorem lt_τ {AC : Nat → ClassId} {Γ : Ev} {σ : St} {i : Nat} (h : i < 343) : i < (wτ AC Γ σ).1 := h
theorem wτ_of {AC : Nat → ClassId} {Γ : Ev} {σ σ' : St} {i : Nat} {x : va_E} (h : wS (wσ AC Γ σ) i x = wσ AC Γ σ') : wS (wτ AC Γ σ) i x = wτ AC Γ σ' := by
  have z : va_up (lay AC Γ σ) i x = lay AC Γ σ' := congrArg (fun w => w.2.2) h
  show (343, Γ.ad, va_up (lay AC Γ σ) i x) = (343, Γ.ad, lay AC Γ σ')
  rw [z]
theorem wM_wτ {AC : Nat → ClassId} {ad : Nat → Nat} : ww (wM AC ad 18) = ww (wτ AC (Γ0 ad) σ00) := by
  refine ww_ext rfl (fun i hi => ⟨rfl, ?_⟩)
  show (if i = 324 then .inr (11, mF ad 18) else lay AC (Γ0 ad) σ00 i) = lay AC (Γ0 ad) σ00 i
  by_cases e : i = 324
  · subst e
    rfl
  · exact if_neg e
def pVτ (AC : Nat → ClassId) (Γ : Ev) (post : St → Prop) : Option Value → Wst → Prop := fun o w => ∃ σ', o = none ∧ w = wτ AC Γ σ' ∧ post σ'
theorem def_M : ∀ j, j < 21 → defaultValue (e_M j) = vp_V [.int 0, .int 0, .int 0, .null, .null, .null, .null, .null, .null, .null, .null, .null, .null, .null, .null, .null, .null, .null, .null, .null, .null] j := by
  intro j hj
  match j, hj with
  | 0, _ => rfl
  | 1, _ => rfl
  | 2, _ => rfl
  | 3, _ => rfl
  | 4, _ => rfl
  | 5, _ => rfl
  | 6, _ => rfl
  | 7, _ => rfl
  | 8, _ => rfl
  | 9, _ => rfl
  | 10, _ => rfl
  | 11, _ => rfl
  | 12, _ => rfl
  | 13, _ => rfl
  | 14, _ => rfl
  | 15, _ => rfl
  | 16, _ => rfl
  | 17, _ => rfl
  | 18, _ => rfl
  | 19, _ => rfl
  | 20, _ => rfl
  | _ + 21, h => exact absurd h (by omega)
abbrev rmt_M_look : Room := { frames := 4, cells := 0, slots := 0, locals := 109 }
def wt_M_look_68 (Γ : Ev) (k60 : Int32 → Int32 → Int32 → St → Prop) (post : St → Prop) (thr : String → St → Prop) : Nat → Int32 → Int32 → Int32 → Int32 → St → Prop
  | 0 => fun _ _ _ _ _ => False
  | fuel + 1 => fun x1 x2 x3 x4 σ => (((St.I (σ) 20 2) ≤ x4 → k60 (x1) (x2) ((x3 + 1)) (σ)) ∧ (¬ (St.I (σ) 20 2) ≤ x4 → False))
def wt_M_look_60 (Γ : Ev)  (post : St → Prop) (thr : String → St → Prop) : Nat → Int32 → Int32 → Int32 → St → Prop
  | 0 => fun _ _ _ _ => False
  | fuel + 1 => fun x1 x2 x3 σ => ((x2 < x3 → post (σ)) ∧ (¬ x2 < x3 → (∃ f16, wt_M_look_68 Γ (fun x1 x2 x3 σ => wt_M_look_60 Γ  post thr fuel x1 x2 x3 σ) post thr f16 (x1) (x2) (x3) ((0 : Int32)) (σ))))
def wt_M_look_37 (Γ : Ev)  (post : St → Prop) (thr : String → St → Prop) : Nat → Int32 → Int32 → Int32 → St → Prop
  | 0 => fun _ _ _ _ => False
  | fuel + 1 => fun x1 x2 x3 σ => (((St.I (σ) 20 2) ≤ x3 → (∃ f17, wt_M_look_60 Γ  post thr f17 (x1) (x2) ((0 : Int32)) (σ))) ∧ (¬ (St.I (σ) 20 2) ≤ x3 → (vp_in x3 40 ∧ wt_M_look_37 Γ  post thr fuel (x1) (x2) ((x3 + 1)) (St.sI (σ) 28 (x3).toNatClampNeg (-1 : Int32)))))
def wt_M_look_2 (Γ : Ev)  (post : St → Prop) (thr : String → St → Prop) : Nat → Int32 → Int32 → Int32 → St → Prop
  | 0 => fun _ _ _ _ => False
  | fuel + 1 => fun x1 x2 x3 σ => (((80 : Int32) ≤ x3 → (∃ f19, wt_M_look_37 Γ  post thr f19 (x1) (x2) ((0 : Int32)) (σ))) ∧ (¬ (80 : Int32) ≤ x3 → (vp_in x3 80 ∧ (vp_in x3 80 ∧ (vp_in x3 80 ∧ wt_M_look_2 Γ  post thr fuel (x1) (x2) ((x3 + 1)) (St.sI (St.sI (St.sI (σ) 29 (x3).toNatClampNeg (0 : Int32)) 34 (x3).toNatClampNeg (-1 : Int32)) 35 (x3).toNatClampNeg (-1 : Int32)))))))
def wt_M_look (Γ : Ev) (x1 : Int32) (x2 : Int32) (σ : St) (post : St → Prop) (thr : String → St → Prop) : Prop := (∃ f23, wt_M_look_2 Γ  post thr f23 (x1) (x2) ((0 : Int32)) (σ))
set_option maxRecDepth 100000 in
set_option maxHeartbeats 4000000 in
theorem bt_M_look_68 {p : Program} {l : Launch} {e : Env} {s : State} {m : MethodId} {args : Array Value} {below : List Frame} {meth : Method} {c : Code} {D : va_G} {AC : Nat → ClassId} {lo : Nat} {Γ : Ev} {post : St → Prop} {thr : String → St → Prop} (hX : Cx p s m args meth c y_M_look b_M_look 5 none [] D AC lo) {k60 : Int32 → Int32 → Int32 → St → Prop} (hk60 : ∀ (x1 : Int32) (x2 : Int32) (x3 : Int32) (σ : St), k60 x1 x2 x3 σ → G p l e rmt_M_look s m args below meth c 5 D lo (pVτ AC Γ post) (fun _ _ => False) (wτ AC Γ (σ)) 0 0 60 [(0, .ref (Γ.ad 324)), (1, .int (x1)), (2, .int (x2)), (3, .int (x3))] []) : ∀ (fuel : Nat) (x1 : Int32) (x2 : Int32) (x3 : Int32) (x4 : Int32) (σ : St), wt_M_look_68 Γ k60 post thr fuel x1 x2 x3 x4 σ → G p l e rmt_M_look s m args below meth c 5 D lo (pVτ AC Γ post) (fun _ _ => False) (wτ AC Γ (σ)) 0 0 68 [(0, .ref (Γ.ad 324)), (1, .int (x1)), (2, .int (x2)), (3, .int (x3)), (4, .int (x4))] [] := by
  intro fuel
  induction fuel with
  | zero => intro x1 x2 x3 x4 σ h; exact False.elim h
  | succ fuel ih =>
    intro x1 x2 x3 x4 σ h
    simp only [wt_M_look_68] at h
    refine g_iload hX d_M_look_68 4 rfl ?_
    refine g_aload_n hX d_M_look_70 rfl 0 rfl ?_
    refine g_getf (i := 324) (kf := 2) hX (lt_τ (by decide)) rfl (lay_MO (AC := AC) (Γ := Γ)) rfl in_M (by decide) t_807 (Or.inl rfl) rfl d_M_look_71 ?_
    refine g_icmp_ge (tgt := 134) hX d_M_look_74 (by decide) (fun q4 => ?_) (fun q4 => ?_)
    · have h := h.1 q4
      refine g_iinc (v := x3 + 1) hX d_M_look_134 3 rfl (congrArg (x3 + ·) (by decide)) (by decide) rfl ?_
      refine g_goto (tgt := 60) hX d_M_look_137 (by decide) ?_
      refine g_sub [1, 2, 3, 0] rfl ?_
      exact hk60 (x1) (x2) ((x3 + 1)) (σ) h
    · exact (h.2 q4).elim
set_option maxRecDepth 100000 in
set_option maxHeartbeats 4000000 in
theorem bt_M_look_60 {p : Program} {l : Launch} {e : Env} {s : State} {m : MethodId} {args : Array Value} {below : List Frame} {meth : Method} {c : Code} {D : va_G} {AC : Nat → ClassId} {lo : Nat} {Γ : Ev} {post : St → Prop} {thr : String → St → Prop} (hX : Cx p s m args meth c y_M_look b_M_look 5 none [] D AC lo)   : ∀ (fuel : Nat) (x1 : Int32) (x2 : Int32) (x3 : Int32) (σ : St), wt_M_look_60 Γ  post thr fuel x1 x2 x3 σ → G p l e rmt_M_look s m args below meth c 5 D lo (pVτ AC Γ post) (fun _ _ => False) (wτ AC Γ (σ)) 0 0 60 [(0, .ref (Γ.ad 324)), (1, .int (x1)), (2, .int (x2)), (3, .int (x3))] [] := by
  intro fuel
  induction fuel with
  | zero => intro x1 x2 x3 σ h; exact False.elim h
  | succ fuel ih =>
    intro x1 x2 x3 σ h
    simp only [wt_M_look_60] at h
    refine g_iload_n hX d_M_look_60 rfl 3 rfl ?_
    refine g_iload_n hX d_M_look_61 rfl 2 rfl ?_
    refine g_icmp_gt (tgt := 140) hX d_M_look_62 (by decide) (fun q3 => ?_) (fun q3 => ?_)
    · have h := h.1 q3
      exact g_vret hX rfl d_M_look_140 ⟨_, rfl, rfl, h⟩
    · have h := h.2 q3
      refine g_iconst (v := 0) hX d_M_look_65 (by decide) ?_
      refine g_istore hX d_M_look_66 (by decide) rfl ?_
      refine g_sub [1, 2, 3, 4, 0] rfl ?_
      obtain ⟨f16, h⟩ := h
      exact bt_M_look_68 hX (fun _ _ _ _ z => ih _ _ _ _ z) f16 _ _ _ _ _ h
set_option maxRecDepth 100000 in
set_option maxHeartbeats 4000000 in
theorem bt_M_look_37 {p : Program} {l : Launch} {e : Env} {s : State} {m : MethodId} {args : Array Value} {below : List Frame} {meth : Method} {c : Code} {D : va_G} {AC : Nat → ClassId} {lo : Nat} {Γ : Ev} {post : St → Prop} {thr : String → St → Prop} (hX : Cx p s m args meth c y_M_look b_M_look 5 none [] D AC lo)   : ∀ (fuel : Nat) (x1 : Int32) (x2 : Int32) (x3 : Int32) (σ : St), wt_M_look_37 Γ  post thr fuel x1 x2 x3 σ → G p l e rmt_M_look s m args below meth c 5 D lo (pVτ AC Γ post) (fun _ _ => False) (wτ AC Γ (σ)) 0 0 37 [(0, .ref (Γ.ad 324)), (1, .int (x1)), (2, .int (x2)), (3, .int (x3))] [] := by
  intro fuel
  induction fuel with
  | zero => intro x1 x2 x3 σ h; exact False.elim h
  | succ fuel ih =>
    intro x1 x2 x3 σ h
    simp only [wt_M_look_37] at h
    refine g_iload_n hX d_M_look_37 rfl 3 rfl ?_
    refine g_aload_n hX d_M_look_38 rfl 0 rfl ?_
    refine g_getf (i := 324) (kf := 2) hX (lt_τ (by decide)) rfl (lay_MO (AC := AC) (Γ := Γ)) rfl in_M (by decide) t_807 (Or.inl rfl) rfl d_M_look_39 ?_
    refine g_icmp_ge (tgt := 58) hX d_M_look_42 (by decide) (fun q2 => ?_) (fun q2 => ?_)
    · have h := h.1 q2
      refine g_iconst (v := 0) hX d_M_look_58 (by decide) ?_
      refine g_istore_n hX d_M_look_59 rfl (by decide) rfl ?_
      refine g_sub [1, 2, 3, 0] rfl ?_
      obtain ⟨f17, h⟩ := h
      exact bt_M_look_60 hX  f17 _ _ _ _ h
    · have h := h.2 q2
      refine g_aload_n hX d_M_look_45 rfl 0 rfl ?_
      refine g_getf (i := 324) (kf := 10) hX (lt_τ (by decide)) rfl (lay_MO (AC := AC) (Γ := Γ)) rfl in_M (by decide) t_815 (Or.inl rfl) rfl d_M_look_46 ?_
      refine g_iload_n hX d_M_look_49 rfl 3 rfl ?_
      refine g_iconst (v := -1) hX d_M_look_50 (by decide) ?_
      obtain ⟨q18, h⟩ := h
      refine g_iast (i := 332) hX (lt_τ (by decide)) rfl (lay_m7 (AC := AC) (Γ := Γ)) q18 d_M_look_51 (wτ_of <| wσ_m_states (upd (St.I (σ) 28) (x3).toNatClampNeg (-1 : Int32))) ?_
      refine g_iinc (v := x3 + 1) hX d_M_look_52 3 rfl (congrArg (x3 + ·) (by decide)) (by decide) rfl ?_
      refine g_goto (tgt := 37) hX d_M_look_55 (by decide) ?_
      refine g_sub [1, 2, 3, 0] rfl ?_
      exact ih (x1) (x2) ((x3 + 1)) (St.sI (σ) 28 (x3).toNatClampNeg (-1 : Int32)) h
set_option maxRecDepth 100000 in
set_option maxHeartbeats 4000000 in
theorem bt_M_look_2 {p : Program} {l : Launch} {e : Env} {s : State} {m : MethodId} {args : Array Value} {below : List Frame} {meth : Method} {c : Code} {D : va_G} {AC : Nat → ClassId} {lo : Nat} {Γ : Ev} {post : St → Prop} {thr : String → St → Prop} (hX : Cx p s m args meth c y_M_look b_M_look 5 none [] D AC lo)   : ∀ (fuel : Nat) (x1 : Int32) (x2 : Int32) (x3 : Int32) (σ : St), wt_M_look_2 Γ  post thr fuel x1 x2 x3 σ → G p l e rmt_M_look s m args below meth c 5 D lo (pVτ AC Γ post) (fun _ _ => False) (wτ AC Γ (σ)) 0 0 2 [(0, .ref (Γ.ad 324)), (1, .int (x1)), (2, .int (x2)), (3, .int (x3))] [] := by
  intro fuel
  induction fuel with
  | zero => intro x1 x2 x3 σ h; exact False.elim h
  | succ fuel ih =>
    intro x1 x2 x3 σ h
    simp only [wt_M_look_2] at h
    refine g_iload_n hX d_M_look_2 rfl 3 rfl ?_
    refine g_bipush (v := 80) hX d_M_look_3 (by decide) ?_
    refine g_icmp_ge (tgt := 35) hX d_M_look_5 (by decide) (fun q1 => ?_) (fun q1 => ?_)
    · have h := h.1 q1
      refine g_iconst (v := 0) hX d_M_look_35 (by decide) ?_
      refine g_istore_n hX d_M_look_36 rfl (by decide) rfl ?_
      refine g_sub [1, 2, 3, 0] rfl ?_
      obtain ⟨f19, h⟩ := h
      exact bt_M_look_37 hX  f19 _ _ _ _ h
    · have h := h.2 q1
      refine g_aload_n hX d_M_look_8 rfl 0 rfl ?_
      refine g_getf (i := 324) (kf := 11) hX (lt_τ (by decide)) rfl (lay_MO (AC := AC) (Γ := Γ)) rfl in_M (by decide) t_816 (Or.inl rfl) rfl d_M_look_9 ?_
      refine g_iload_n hX d_M_look_12 rfl 3 rfl ?_
      refine g_iconst (v := 0) hX d_M_look_13 (by decide) ?_
      obtain ⟨q20, h⟩ := h
      refine g_zast (i := 333) hX (lt_τ (by decide)) rfl (lay_m8 (AC := AC) (Γ := Γ)) q20 d_M_look_14 (wτ_of <| wσ_m_mlives (upd (St.I (σ) 29) (x3).toNatClampNeg (0 : Int32))) ?_
      refine g_aload_n hX d_M_look_15 rfl 0 rfl ?_
      refine g_getf (i := 324) (kf := 19) hX (lt_τ (by decide)) rfl (lay_MO (AC := AC) (Γ := Γ)) rfl in_M (by decide) t_824 (Or.inl rfl) rfl d_M_look_16 ?_
      refine g_iload_n hX d_M_look_19 rfl 3 rfl ?_
      refine g_iconst (v := -1) hX d_M_look_20 (by decide) ?_
      obtain ⟨q21, h⟩ := h
      refine g_iast (i := 341) hX (lt_τ (by decide)) rfl (lay_m16 (AC := AC) (Γ := Γ)) q21 d_M_look_21 (wτ_of <| wσ_m_from (upd (St.I (St.sI (σ) 29 (x3).toNatClampNeg (0 : Int32)) 34) (x3).toNatClampNeg (-1 : Int32))) ?_
      refine g_aload_n hX d_M_look_22 rfl 0 rfl ?_
      refine g_getf (i := 324) (kf := 20) hX (lt_τ (by decide)) rfl (lay_MO (AC := AC) (Γ := Γ)) rfl in_M (by decide) t_825 (Or.inl rfl) rfl d_M_look_23 ?_
      refine g_iload_n hX d_M_look_26 rfl 3 rfl ?_
      refine g_iconst (v := -1) hX d_M_look_27 (by decide) ?_
      obtain ⟨q22, h⟩ := h
      refine g_iast (i := 342) hX (lt_τ (by decide)) rfl (lay_m17 (AC := AC) (Γ := Γ)) q22 d_M_look_28 (wτ_of <| wσ_m_also (upd (St.I (St.sI (St.sI (σ) 29 (x3).toNatClampNeg (0 : Int32)) 34 (x3).toNatClampNeg (-1 : Int32)) 35) (x3).toNatClampNeg (-1 : Int32))) ?_
      refine g_iinc (v := x3 + 1) hX d_M_look_29 3 rfl (congrArg (x3 + ·) (by decide)) (by decide) rfl ?_
      refine g_goto (tgt := 2) hX d_M_look_32 (by decide) ?_
      refine g_sub [1, 2, 3, 0] rfl ?_
      exact ih (x1) (x2) ((x3 + 1)) (St.sI (St.sI (St.sI (σ) 29 (x3).toNatClampNeg (0 : Int32)) 34 (x3).toNatClampNeg (-1 : Int32)) 35 (x3).toNatClampNeg (-1 : Int32)) h
set_option maxRecDepth 100000 in
set_option maxHeartbeats 4000000 in
theorem ct_M_look {l : Launch} {D : va_G} {AC : Nat → ClassId} {lo : Nat} {Γ : Ev} {x1 : Int32} {x2 : Int32} {σ : St} {post : St → Prop} {thr : String → St → Prop} (h : wt_M_look Γ x1 x2 σ post thr) : Ct l y_M_look hd_M_look rmt_M_look D AC lo [.ref (Γ.ad 324), .int (x1), .int (x2)] (wτ AC Γ σ) (pVτ AC Γ post) (fun _ _ => False) := by
  refine Ct.of (by decide) (Nat.le_of_ble_eq_true rfl) ?_
  intro p e s m args below meth c hadm hX
  unfold wt_M_look at h
  show G p l e rmt_M_look s m args below meth c 5 D lo (pVτ AC Γ post) (fun _ _ => False) (wτ AC Γ (σ)) 0 0 0 [(0, .ref (Γ.ad 324)), (1, .int (x1)), (2, .int (x2))] []
  refine g_iconst (v := 0) hX d_M_look_0 (by decide) ?_
  refine g_istore_n hX d_M_look_1 rfl (by decide) rfl ?_
  refine g_sub [1, 2, 3, 0] rfl ?_
  obtain ⟨f23, h⟩ := h
  exact bt_M_look_2 hX  f23 _ _ _ _ h
abbrev rm_M_init : Room := { frames := 5, cells := 18, slots := 2720, locals := 140 }
set_option maxRecDepth 100000 in
set_option maxHeartbeats 4000000 in
theorem c_M_init {l : Launch} {D : va_G} {AC : Nat → ClassId} {lo : Nat} {a : Nat} {ad : Nat → Nat} {post : Option Value → Wst → Prop} {thr : String → Wst → Prop} (ha : ad 324 = a) (h : ∀ ad', (∀ i, i < 325 → ad' i = ad i) → wt_M_look (Γ0 ad') 0 0 σ00 (fun σ => post none (wτ AC (Γ0 ad') σ)) (fun _ _ => False)) : Ct l y_M_init hd_M_init rm_M_init D AC lo [.ref a] (wM AC ad 0) post thr := by
  refine Ct.of (by decide) (Nat.le_of_ble_eq_true rfl) ?_
  intro p e s m args below meth c hadm hX
  have hA0 : ∀ i, i < 325 → ad i = ad i := fun _ _ => rfl
  show G p l e rm_M_init s m args below meth c 1 D lo post thr (wM AC ad 0) 18 2720 0 [(0, .ref a)] []
  refine g_aload_n hX d_M_init_0 rfl 0 rfl ?_
  refine g_objInit hX t_745 t_29 t_30 (Nat.le_of_ble_eq_true rfl) (Nat.le_of_ble_eq_true rfl) d_M_init_1 ?_
  refine g_aload_n hX d_M_init_4 rfl 0 rfl ?_
  refine g_bipush (v := 40) hX d_M_init_5 (by decide) ?_
  refine g_newaI (k := 17) (n := 2680) (N1 := 40) hX t_97 (by decide) rfl (by decide) d_M_init_7 (fun q => ?_)
  refine g_putF (i := 324) (kf := 3) (ty := .array .int) hX (by show 324 < 325 + 0 + 1; decide) ((wN_ad (w := wM AC ad 0) (q := q) (x := arI 40 AC) (by show 324 < 325 + 0; decide)).trans ((hA0 324 (by decide)).trans ha)) ((wN_E (w := wM AC ad 0) (q := q) (x := arI 40 AC) (by show 324 < 325 + 0; decide)).trans wM_E) rfl in_M ty_M nm_M (by decide) t_808 (Or.inl rfl) rfl rfl rfl (by decide +kernel) rfl rfl (Nat.le_of_ble_eq_true rfl) d_M_init_9 rfl ?_
  obtain ⟨ad1, hA1, hw0⟩ := wM_step (AC := AC) (ad := ad) (ad0 := ad) (j := 0) (q := q) (E := arI 40 AC) (by decide) hA0 (fun _ => rfl)
  refine g_eqw hw0 ?_
  clear hw0
  refine g_aload_n hX d_M_init_12 rfl 0 rfl ?_
  refine g_bipush (v := 40) hX d_M_init_13 (by decide) ?_
  refine g_newaI (k := 16) (n := 2640) (N1 := 40) hX t_97 (by decide) rfl (by decide) d_M_init_15 (fun q => ?_)
  refine g_putF (i := 324) (kf := 4) (ty := .array .int) hX (by show 324 < 325 + 1 + 1; decide) ((wN_ad (w := wM AC ad1 1) (q := q) (x := arI 40 AC) (by show 324 < 325 + 1; decide)).trans ((hA1 324 (by decide)).trans ha)) ((wN_E (w := wM AC ad1 1) (q := q) (x := arI 40 AC) (by show 324 < 325 + 1; decide)).trans wM_E) rfl in_M ty_M nm_M (by decide) t_809 (Or.inl rfl) rfl rfl rfl (by decide +kernel) rfl rfl (Nat.le_of_ble_eq_true rfl) d_M_init_17 rfl ?_
  obtain ⟨ad2, hA2, hw1⟩ := wM_step (AC := AC) (ad := ad1) (ad0 := ad) (j := 1) (q := q) (E := arI 40 AC) (by decide) hA1 (fun _ => rfl)
  refine g_eqw hw1 ?_
  clear hw1
  refine g_aload_n hX d_M_init_20 rfl 0 rfl ?_
  refine g_bipush (v := 40) hX d_M_init_21 (by decide) ?_
  refine g_newaI (k := 15) (n := 2600) (N1 := 40) hX t_97 (by decide) rfl (by decide) d_M_init_23 (fun q => ?_)
  refine g_putF (i := 324) (kf := 5) (ty := .array .int) hX (by show 324 < 325 + 2 + 1; decide) ((wN_ad (w := wM AC ad2 2) (q := q) (x := arI 40 AC) (by show 324 < 325 + 2; decide)).trans ((hA2 324 (by decide)).trans ha)) ((wN_E (w := wM AC ad2 2) (q := q) (x := arI 40 AC) (by show 324 < 325 + 2; decide)).trans wM_E) rfl in_M ty_M nm_M (by decide) t_810 (Or.inl rfl) rfl rfl rfl (by decide +kernel) rfl rfl (Nat.le_of_ble_eq_true rfl) d_M_init_25 rfl ?_
  obtain ⟨ad3, hA3, hw2⟩ := wM_step (AC := AC) (ad := ad2) (ad0 := ad) (j := 2) (q := q) (E := arI 40 AC) (by decide) hA2 (fun _ => rfl)
  refine g_eqw hw2 ?_
  clear hw2
  refine g_aload_n hX d_M_init_28 rfl 0 rfl ?_
  refine g_bipush (v := 40) hX d_M_init_29 (by decide) ?_
  refine g_newaI (k := 14) (n := 2560) (N1 := 40) hX t_97 (by decide) rfl (by decide) d_M_init_31 (fun q => ?_)
  refine g_putF (i := 324) (kf := 6) (ty := .array .int) hX (by show 324 < 325 + 3 + 1; decide) ((wN_ad (w := wM AC ad3 3) (q := q) (x := arI 40 AC) (by show 324 < 325 + 3; decide)).trans ((hA3 324 (by decide)).trans ha)) ((wN_E (w := wM AC ad3 3) (q := q) (x := arI 40 AC) (by show 324 < 325 + 3; decide)).trans wM_E) rfl in_M ty_M nm_M (by decide) t_811 (Or.inl rfl) rfl rfl rfl (by decide +kernel) rfl rfl (Nat.le_of_ble_eq_true rfl) d_M_init_33 rfl ?_
  obtain ⟨ad4, hA4, hw3⟩ := wM_step (AC := AC) (ad := ad3) (ad0 := ad) (j := 3) (q := q) (E := arI 40 AC) (by decide) hA3 (fun _ => rfl)
  refine g_eqw hw3 ?_
  clear hw3
  refine g_aload_n hX d_M_init_36 rfl 0 rfl ?_
  refine g_bipush (v := 40) hX d_M_init_37 (by decide) ?_
  refine g_newaI (k := 13) (n := 2520) (N1 := 40) hX t_97 (by decide) rfl (by decide) d_M_init_39 (fun q => ?_)
  refine g_putF (i := 324) (kf := 7) (ty := .array .int) hX (by show 324 < 325 + 4 + 1; decide) ((wN_ad (w := wM AC ad4 4) (q := q) (x := arI 40 AC) (by show 324 < 325 + 4; decide)).trans ((hA4 324 (by decide)).trans ha)) ((wN_E (w := wM AC ad4 4) (q := q) (x := arI 40 AC) (by show 324 < 325 + 4; decide)).trans wM_E) rfl in_M ty_M nm_M (by decide) t_812 (Or.inl rfl) rfl rfl rfl (by decide +kernel) rfl rfl (Nat.le_of_ble_eq_true rfl) d_M_init_41 rfl ?_
  obtain ⟨ad5, hA5, hw4⟩ := wM_step (AC := AC) (ad := ad4) (ad0 := ad) (j := 4) (q := q) (E := arI 40 AC) (by decide) hA4 (fun _ => rfl)
  refine g_eqw hw4 ?_
  clear hw4
  refine g_aload_n hX d_M_init_44 rfl 0 rfl ?_
  refine g_bipush (v := 40) hX d_M_init_45 (by decide) ?_
  refine g_newaI (k := 12) (n := 2480) (N1 := 40) hX t_97 (by decide) rfl (by decide) d_M_init_47 (fun q => ?_)
  refine g_putF (i := 324) (kf := 8) (ty := .array .int) hX (by show 324 < 325 + 5 + 1; decide) ((wN_ad (w := wM AC ad5 5) (q := q) (x := arI 40 AC) (by show 324 < 325 + 5; decide)).trans ((hA5 324 (by decide)).trans ha)) ((wN_E (w := wM AC ad5 5) (q := q) (x := arI 40 AC) (by show 324 < 325 + 5; decide)).trans wM_E) rfl in_M ty_M nm_M (by decide) t_813 (Or.inl rfl) rfl rfl rfl (by decide +kernel) rfl rfl (Nat.le_of_ble_eq_true rfl) d_M_init_49 rfl ?_
  obtain ⟨ad6, hA6, hw5⟩ := wM_step (AC := AC) (ad := ad5) (ad0 := ad) (j := 5) (q := q) (E := arI 40 AC) (by decide) hA5 (fun _ => rfl)
  refine g_eqw hw5 ?_
  clear hw5
  refine g_aload_n hX d_M_init_52 rfl 0 rfl ?_
  refine g_bipush (v := 40) hX d_M_init_53 (by decide) ?_
  refine g_newaI (k := 11) (n := 2440) (N1 := 40) hX t_97 (by decide) rfl (by decide) d_M_init_55 (fun q => ?_)
  refine g_putF (i := 324) (kf := 9) (ty := .array .int) hX (by show 324 < 325 + 6 + 1; decide) ((wN_ad (w := wM AC ad6 6) (q := q) (x := arI 40 AC) (by show 324 < 325 + 6; decide)).trans ((hA6 324 (by decide)).trans ha)) ((wN_E (w := wM AC ad6 6) (q := q) (x := arI 40 AC) (by show 324 < 325 + 6; decide)).trans wM_E) rfl in_M ty_M nm_M (by decide) t_814 (Or.inl rfl) rfl rfl rfl (by decide +kernel) rfl rfl (Nat.le_of_ble_eq_true rfl) d_M_init_57 rfl ?_
  obtain ⟨ad7, hA7, hw6⟩ := wM_step (AC := AC) (ad := ad6) (ad0 := ad) (j := 6) (q := q) (E := arI 40 AC) (by decide) hA6 (fun _ => rfl)
  refine g_eqw hw6 ?_
  clear hw6
  refine g_aload_n hX d_M_init_60 rfl 0 rfl ?_
  refine g_bipush (v := 40) hX d_M_init_61 (by decide) ?_
  refine g_newaI (k := 10) (n := 2400) (N1 := 40) hX t_97 (by decide) rfl (by decide) d_M_init_63 (fun q => ?_)
  refine g_putF (i := 324) (kf := 10) (ty := .array .int) hX (by show 324 < 325 + 7 + 1; decide) ((wN_ad (w := wM AC ad7 7) (q := q) (x := arI 40 AC) (by show 324 < 325 + 7; decide)).trans ((hA7 324 (by decide)).trans ha)) ((wN_E (w := wM AC ad7 7) (q := q) (x := arI 40 AC) (by show 324 < 325 + 7; decide)).trans wM_E) rfl in_M ty_M nm_M (by decide) t_815 (Or.inl rfl) rfl rfl rfl (by decide +kernel) rfl rfl (Nat.le_of_ble_eq_true rfl) d_M_init_65 rfl ?_
  obtain ⟨ad8, hA8, hw7⟩ := wM_step (AC := AC) (ad := ad7) (ad0 := ad) (j := 7) (q := q) (E := arI 40 AC) (by decide) hA7 (fun _ => rfl)
  refine g_eqw hw7 ?_
  clear hw7
  refine g_aload_n hX d_M_init_68 rfl 0 rfl ?_
  refine g_bipush (v := 80) hX d_M_init_69 (by decide) ?_
  refine g_newaZ (k := 9) (n := 2320) (N1 := 80) hX t_869 (by decide) rfl (by decide) d_M_init_71 (fun q => ?_)
  refine g_putF (i := 324) (kf := 11) (ty := .array .boolean) hX (by show 324 < 325 + 8 + 1; decide) ((wN_ad (w := wM AC ad8 8) (q := q) (x := arZ 80 AC) (by show 324 < 325 + 8; decide)).trans ((hA8 324 (by decide)).trans ha)) ((wN_E (w := wM AC ad8 8) (q := q) (x := arZ 80 AC) (by show 324 < 325 + 8; decide)).trans wM_E) rfl in_M ty_M nm_M (by decide) t_816 (Or.inl rfl) rfl rfl rfl (by decide +kernel) rfl rfl (Nat.le_of_ble_eq_true rfl) d_M_init_73 rfl ?_
  obtain ⟨ad9, hA9, hw8⟩ := wM_step (AC := AC) (ad := ad8) (ad0 := ad) (j := 8) (q := q) (E := arZ 80 AC) (by decide) hA8 (fun _ => rfl)
  refine g_eqw hw8 ?_
  clear hw8
  refine g_aload_n hX d_M_init_76 rfl 0 rfl ?_
  refine g_bipush (v := 80) hX d_M_init_77 (by decide) ?_
  refine g_newaL (k := 8) (n := 2240) (N1 := 80) hX t_96 (by decide) rfl (by decide) d_M_init_79 (fun q => ?_)
  refine g_putF (i := 324) (kf := 12) (ty := .array .long) hX (by show 324 < 325 + 9 + 1; decide) ((wN_ad (w := wM AC ad9 9) (q := q) (x := arL 80 AC) (by show 324 < 325 + 9; decide)).trans ((hA9 324 (by decide)).trans ha)) ((wN_E (w := wM AC ad9 9) (q := q) (x := arL 80 AC) (by show 324 < 325 + 9; decide)).trans wM_E) rfl in_M ty_M nm_M (by decide) t_817 (Or.inl rfl) rfl rfl rfl (by decide +kernel) rfl rfl (Nat.le_of_ble_eq_true rfl) d_M_init_81 rfl ?_
  obtain ⟨ad10, hA10, hw9⟩ := wM_step (AC := AC) (ad := ad9) (ad0 := ad) (j := 9) (q := q) (E := arL 80 AC) (by decide) hA9 (fun _ => rfl)
  refine g_eqw hw9 ?_
  clear hw9
  refine g_aload_n hX d_M_init_84 rfl 0 rfl ?_
  refine g_sipush (v := 640) hX d_M_init_85 (by decide) ?_
  refine g_newaL (k := 7) (n := 1600) (N1 := 640) hX t_96 (by decide) rfl (by decide) d_M_init_88 (fun q => ?_)
  refine g_putF (i := 324) (kf := 13) (ty := .array .long) hX (by show 324 < 325 + 10 + 1; decide) ((wN_ad (w := wM AC ad10 10) (q := q) (x := arL 640 AC) (by show 324 < 325 + 10; decide)).trans ((hA10 324 (by decide)).trans ha)) ((wN_E (w := wM AC ad10 10) (q := q) (x := arL 640 AC) (by show 324 < 325 + 10; decide)).trans wM_E) rfl in_M ty_M nm_M (by decide) t_818 (Or.inl rfl) rfl rfl rfl (by decide +kernel) rfl rfl (Nat.le_of_ble_eq_true rfl) d_M_init_90 rfl ?_
  obtain ⟨ad11, hA11, hw10⟩ := wM_step (AC := AC) (ad := ad10) (ad0 := ad) (j := 10) (q := q) (E := arL 640 AC) (by decide) hA10 (fun _ => rfl)
  refine g_eqw hw10 ?_
  clear hw10
  refine g_aload_n hX d_M_init_93 rfl 0 rfl ?_
  refine g_sipush (v := 640) hX d_M_init_94 (by decide) ?_
  refine g_newaL (k := 6) (n := 960) (N1 := 640) hX t_96 (by decide) rfl (by decide) d_M_init_97 (fun q => ?_)
  refine g_putF (i := 324) (kf := 14) (ty := .array .long) hX (by show 324 < 325 + 11 + 1; decide) ((wN_ad (w := wM AC ad11 11) (q := q) (x := arL 640 AC) (by show 324 < 325 + 11; decide)).trans ((hA11 324 (by decide)).trans ha)) ((wN_E (w := wM AC ad11 11) (q := q) (x := arL 640 AC) (by show 324 < 325 + 11; decide)).trans wM_E) rfl in_M ty_M nm_M (by decide) t_819 (Or.inl rfl) rfl rfl rfl (by decide +kernel) rfl rfl (Nat.le_of_ble_eq_true rfl) d_M_init_99 rfl ?_
  obtain ⟨ad12, hA12, hw11⟩ := wM_step (AC := AC) (ad := ad11) (ad0 := ad) (j := 11) (q := q) (E := arL 640 AC) (by decide) hA11 (fun _ => rfl)
  refine g_eqw hw11 ?_
  clear hw11
  refine g_aload_n hX d_M_init_102 rfl 0 rfl ?_
  refine g_bipush (v := 80) hX d_M_init_103 (by decide) ?_
  refine g_newaI (k := 5) (n := 880) (N1 := 80) hX t_97 (by decide) rfl (by decide) d_M_init_105 (fun q => ?_)
  refine g_putF (i := 324) (kf := 15) (ty := .array .int) hX (by show 324 < 325 + 12 + 1; decide) ((wN_ad (w := wM AC ad12 12) (q := q) (x := arI 80 AC) (by show 324 < 325 + 12; decide)).trans ((hA12 324 (by decide)).trans ha)) ((wN_E (w := wM AC ad12 12) (q := q) (x := arI 80 AC) (by show 324 < 325 + 12; decide)).trans wM_E) rfl in_M ty_M nm_M (by decide) t_820 (Or.inl rfl) rfl rfl rfl (by decide +kernel) rfl rfl (Nat.le_of_ble_eq_true rfl) d_M_init_107 rfl ?_
  obtain ⟨ad13, hA13, hw12⟩ := wM_step (AC := AC) (ad := ad12) (ad0 := ad) (j := 12) (q := q) (E := arI 80 AC) (by decide) hA12 (fun _ => rfl)
  refine g_eqw hw12 ?_
  clear hw12
  refine g_aload_n hX d_M_init_110 rfl 0 rfl ?_
  refine g_sipush (v := 320) hX d_M_init_111 (by decide) ?_
  refine g_newaI (k := 4) (n := 560) (N1 := 320) hX t_97 (by decide) rfl (by decide) d_M_init_114 (fun q => ?_)
  refine g_putF (i := 324) (kf := 16) (ty := .array .int) hX (by show 324 < 325 + 13 + 1; decide) ((wN_ad (w := wM AC ad13 13) (q := q) (x := arI 320 AC) (by show 324 < 325 + 13; decide)).trans ((hA13 324 (by decide)).trans ha)) ((wN_E (w := wM AC ad13 13) (q := q) (x := arI 320 AC) (by show 324 < 325 + 13; decide)).trans wM_E) rfl in_M ty_M nm_M (by decide) t_821 (Or.inl rfl) rfl rfl rfl (by decide +kernel) rfl rfl (Nat.le_of_ble_eq_true rfl) d_M_init_116 rfl ?_
  obtain ⟨ad14, hA14, hw13⟩ := wM_step (AC := AC) (ad := ad13) (ad0 := ad) (j := 13) (q := q) (E := arI 320 AC) (by decide) hA13 (fun _ => rfl)
  refine g_eqw hw13 ?_
  clear hw13
  refine g_aload_n hX d_M_init_119 rfl 0 rfl ?_
  refine g_sipush (v := 320) hX d_M_init_120 (by decide) ?_
  refine g_newaI (k := 3) (n := 240) (N1 := 320) hX t_97 (by decide) rfl (by decide) d_M_init_123 (fun q => ?_)
  refine g_putF (i := 324) (kf := 17) (ty := .array .int) hX (by show 324 < 325 + 14 + 1; decide) ((wN_ad (w := wM AC ad14 14) (q := q) (x := arI 320 AC) (by show 324 < 325 + 14; decide)).trans ((hA14 324 (by decide)).trans ha)) ((wN_E (w := wM AC ad14 14) (q := q) (x := arI 320 AC) (by show 324 < 325 + 14; decide)).trans wM_E) rfl in_M ty_M nm_M (by decide) t_822 (Or.inl rfl) rfl rfl rfl (by decide +kernel) rfl rfl (Nat.le_of_ble_eq_true rfl) d_M_init_125 rfl ?_
  obtain ⟨ad15, hA15, hw14⟩ := wM_step (AC := AC) (ad := ad14) (ad0 := ad) (j := 14) (q := q) (E := arI 320 AC) (by decide) hA14 (fun _ => rfl)
  refine g_eqw hw14 ?_
  clear hw14
  refine g_aload_n hX d_M_init_128 rfl 0 rfl ?_
  refine g_bipush (v := 80) hX d_M_init_129 (by decide) ?_
  refine g_newaI (k := 2) (n := 160) (N1 := 80) hX t_97 (by decide) rfl (by decide) d_M_init_131 (fun q => ?_)
  refine g_putF (i := 324) (kf := 18) (ty := .array .int) hX (by show 324 < 325 + 15 + 1; decide) ((wN_ad (w := wM AC ad15 15) (q := q) (x := arI 80 AC) (by show 324 < 325 + 15; decide)).trans ((hA15 324 (by decide)).trans ha)) ((wN_E (w := wM AC ad15 15) (q := q) (x := arI 80 AC) (by show 324 < 325 + 15; decide)).trans wM_E) rfl in_M ty_M nm_M (by decide) t_823 (Or.inl rfl) rfl rfl rfl (by decide +kernel) rfl rfl (Nat.le_of_ble_eq_true rfl) d_M_init_133 rfl ?_
  obtain ⟨ad16, hA16, hw15⟩ := wM_step (AC := AC) (ad := ad15) (ad0 := ad) (j := 15) (q := q) (E := arI 80 AC) (by decide) hA15 (fun _ => rfl)
  refine g_eqw hw15 ?_
  clear hw15
  refine g_aload_n hX d_M_init_136 rfl 0 rfl ?_
  refine g_bipush (v := 80) hX d_M_init_137 (by decide) ?_
  refine g_newaI (k := 1) (n := 80) (N1 := 80) hX t_97 (by decide) rfl (by decide) d_M_init_139 (fun q => ?_)
  refine g_putF (i := 324) (kf := 19) (ty := .array .int) hX (by show 324 < 325 + 16 + 1; decide) ((wN_ad (w := wM AC ad16 16) (q := q) (x := arI 80 AC) (by show 324 < 325 + 16; decide)).trans ((hA16 324 (by decide)).trans ha)) ((wN_E (w := wM AC ad16 16) (q := q) (x := arI 80 AC) (by show 324 < 325 + 16; decide)).trans wM_E) rfl in_M ty_M nm_M (by decide) t_824 (Or.inl rfl) rfl rfl rfl (by decide +kernel) rfl rfl (Nat.le_of_ble_eq_true rfl) d_M_init_141 rfl ?_
  obtain ⟨ad17, hA17, hw16⟩ := wM_step (AC := AC) (ad := ad16) (ad0 := ad) (j := 16) (q := q) (E := arI 80 AC) (by decide) hA16 (fun _ => rfl)
  refine g_eqw hw16 ?_
  clear hw16
  refine g_aload_n hX d_M_init_144 rfl 0 rfl ?_
  refine g_bipush (v := 80) hX d_M_init_145 (by decide) ?_
  refine g_newaI (k := 0) (n := 0) (N1 := 80) hX t_97 (by decide) rfl (by decide) d_M_init_147 (fun q => ?_)
  refine g_putF (i := 324) (kf := 20) (ty := .array .int) hX (by show 324 < 325 + 17 + 1; decide) ((wN_ad (w := wM AC ad17 17) (q := q) (x := arI 80 AC) (by show 324 < 325 + 17; decide)).trans ((hA17 324 (by decide)).trans ha)) ((wN_E (w := wM AC ad17 17) (q := q) (x := arI 80 AC) (by show 324 < 325 + 17; decide)).trans wM_E) rfl in_M ty_M nm_M (by decide) t_825 (Or.inl rfl) rfl rfl rfl (by decide +kernel) rfl rfl (Nat.le_of_ble_eq_true rfl) d_M_init_149 rfl ?_
  obtain ⟨ad18, hA18, hw17⟩ := wM_step (AC := AC) (ad := ad17) (ad0 := ad) (j := 17) (q := q) (E := arI 80 AC) (by decide) hA17 (fun _ => rfl)
  refine g_eqw hw17 ?_
  clear hw17
  refine g_eqw wM_wτ ?_
  refine g_aload_n hX d_M_init_152 rfl 0 rfl ?_
  refine g_iconst (v := 0) hX d_M_init_153 (by decide) ?_
  refine g_iconst (v := 0) hX d_M_init_154 (by decide) ?_
  have z := ct_M_look (l := l) (D := D) (AC := AC) (lo := lo) (h ad18 hA18)
  rw [show (Γ0 ad18).ad 324 = a from (hA18 324 (by decide)).trans ha] at z
  refine g_callV (i := 324) (k := 0) (n := 0) (a := a) (As := [.int 0, .int 0]) (rest := []) hX z hdT_M_look hdO_M_look t_3 t_746 t_748 ts_M_look (lt_τ (by decide)) ((hA18 324 (by decide)).trans ha) (lay_MO (AC := AC) (Γ := Γ0 ad18)) rfl ⟨⟨by decide, by decide⟩, np_M_look⟩ ⟨Nat.le_of_ble_eq_true rfl, Nat.le_of_ble_eq_true rfl⟩ (Nat.le_of_ble_eq_true rfl) d_M_init_155 rfl ?_ (fun _ _ z => z.elim)
  rintro _ _ ⟨σ1, rfl, rfl, h⟩
  exact g_vret hX rfl d_M_init_158 h

