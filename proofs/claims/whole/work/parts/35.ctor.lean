/-! The constructors, and the start of the law -/
section CTOR
variable {p : Program} {l : Launch} {e : Env} {R : Room} {s : State} {m : MethodId} {args : Array Value} {below : List Frame} {meth : Method} {c : Code} {nL : Nat} {D : va_G} {AC : Nat → ClassId} {lo : Nat} {post : Option Value → Wst → Prop} {thr : String → Wst → Prop} {w w' : Wst} {k n pc : Nat} {lv : List (Nat × Value)} {st : List Value}
theorem g_eqw (h : ww w = ww w') (kk : G p l e R s m args below meth c nL D lo post thr w' k n pc lv st) : G p l e R s m args below meth c nL D lo post thr w k n pc lv st :=
  fun H locs ls cells slots hb => kk H locs ls cells slots ⟨hb.1, by have z := hb.2.1; unfold wP at z ⊢; rw [h] at z; exact z, hb.2.2⟩
theorem ww_ext (hN : w.1 = w'.1) (h : ∀ i, i < w.1 → w.2.1 i = w'.2.1 i ∧ w.2.2 i = w'.2.2 i) : ww w = ww w' := by
  unfold ww wl
  rw [← hN]
  apply List.map_congr_left
  intro i hi
  obtain ⟨a, b⟩ := h i (List.mem_range.mp hi)
  rw [a, b]
theorem wN_E {q i : Nat} {x : va_E} (h : i < w.1) : (wN w q x).2.2 i = w.2.2 i := va_up_ne _ _ (Nat.ne_of_lt h)
theorem wN_ad {q i : Nat} {x : va_E} (h : i < w.1) : (wN w q x).2.1 i = w.2.1 i := va_up_ne _ _ (Nat.ne_of_lt h)
theorem wN_E1 {q : Nat} {x : va_E} : (wN w q x).2.2 w.1 = x := va_up_self _ _ _
theorem wN_ad1 {q : Nat} {x : va_E} : (wN w q x).2.1 w.1 = q := va_up_self _ _ _
theorem wS_E1 {i : Nat} {x : va_E} : (wS w i x).2.2 i = x := va_up_self _ _ _
theorem wS_E {i j : Nat} {x : va_E} (h : j ≠ i) : (wS w i x).2.2 j = w.2.2 j := va_up_ne _ _ h
end CTOR
abbrev arL (n : Nat) (AC : Nat → ClassId) : va_E := .inl (AC 1, n, .inr (.inl (fun _ => 0)))
abbrev arI (n : Nat) (AC : Nat → ClassId) : va_E := .inl (AC 0, n, .inl (fun _ => 0))
abbrev arZ (n : Nat) (AC : Nat → ClassId) : va_E := .inl (AC 2, n, .inl (fun _ => 0))
abbrev par0 : va_E := .inr (1, [.int 0, .long 0, .null, .int 0, .null, .null, .int 0, .int 0, .int 0])
abbrev par1 (a b d : Nat) : va_E := .inr (1, [.int 0, .long 0, .ref a, .int 0, .ref b, .ref d, .int 0, .int (-1), .int (-1)])
/-- a parcel's cells, made at the end of the world -/
def parW (AC : Nat → ClassId) (w : Wst) (i q1 q2 q3 : Nat) : Wst :=
  (w.1 + 3, fun j => if j = w.1 then q1 else if j = w.1 + 1 then q2 else if j = w.1 + 2 then q3 else w.2.1 j,
   fun j => if j = i then par1 q1 q2 q3 else if j = w.1 then arL 8 AC else if j = w.1 + 1 then arI 4 AC else if j = w.1 + 2 then arI 4 AC else w.2.2 j)
abbrev rm_P_init : Room := { frames := 1, cells := 3, slots := 16, locals := 20 }
set_option maxRecDepth 100000 in
set_option maxHeartbeats 4000000 in
theorem c_P_init {l : Launch} {D : va_G} {AC : Nat → ClassId} {lo : Nat} {w : Wst} {i a : Nat} {post : Option Value → Wst → Prop} {thr : String → Wst → Prop} (hi : i < w.1) (ha : w.2.1 i = a) (he : w.2.2 i = par0) (h : ∀ q1 q2 q3, post none (parW AC w i q1 q2 q3)) : Ct l y_P_init hd_P_init rm_P_init D AC lo [.ref a] w post thr := by
  refine Ct.of (by decide) (Nat.le_of_ble_eq_true rfl) ?_
  intro p e s m args below meth c hadm hX
  show G p l e rm_P_init s m args below meth c 1 D lo post thr w 3 16 0 [(0, .ref a)] []
  refine g_aload_n hX d_P_init_0 rfl 0 rfl ?_
  refine g_objInit hX t_39 t_29 t_30 (Nat.le_of_ble_eq_true rfl) (Nat.le_of_ble_eq_true rfl) d_P_init_1 ?_
  refine g_aload_n hX d_P_init_4 rfl 0 rfl ?_
  refine g_bipush (v := 8) hX d_P_init_5 (by decide) ?_
  refine g_newaL (k := 2) (n := 8) (N1 := 8) hX t_96 (by decide) rfl (by decide) d_P_init_7 (fun q1 => ?_)
  refine g_putF (i := i) (kf := 2) (ty := .array .long) hX (Nat.lt_succ_of_lt hi) ((wN_ad hi).trans ha) ((wN_E hi).trans he) rfl in_P ty_P nm_P (by decide) t_51 (Or.inl rfl) rfl rfl rfl (by decide +kernel) rfl rfl (by show _ < List.length _; simp) d_P_init_9 rfl ?_
  refine g_aload_n hX d_P_init_12 rfl 0 rfl ?_
  refine g_iconst (v := 4) hX d_P_init_13 (by decide) ?_
  refine g_newaI (k := 1) (n := 4) (N1 := 4) hX t_97 (by decide) rfl (by decide) d_P_init_14 (fun q2 => ?_)
  have hi3 : i < (wN w q1 (arL 8 AC)).1 := Nat.lt_succ_of_lt hi
  refine g_putF (i := i) (kf := 4) (ty := .array .int) hX (Nat.lt_succ_of_lt hi3) ((wN_ad (w := wS (wN w q1 (arL 8 AC)) i _) hi3).trans ((wN_ad hi).trans ha)) ((wN_E (w := wS (wN w q1 (arL 8 AC)) i _) hi3).trans wS_E1) rfl in_P ty_P nm_P (by decide) t_59 (Or.inl rfl) rfl rfl rfl (by decide +kernel) rfl rfl (by show _ < List.length _; simp) d_P_init_16 rfl ?_
  refine g_aload_n hX d_P_init_19 rfl 0 rfl ?_
  refine g_iconst (v := 4) hX d_P_init_20 (by decide) ?_
  refine g_newaI (k := 0) (n := 0) (N1 := 4) hX t_97 (by decide) rfl (by decide) d_P_init_21 (fun q3 => ?_)
  have hi5 : i < (wN (wN w q1 (arL 8 AC)) q2 (arI 4 AC)).1 := Nat.lt_succ_of_lt hi3
  refine g_putF (i := i) (kf := 5) (ty := .array .int) hX (Nat.lt_succ_of_lt hi5) ((wN_ad (w := wS (wN (wS (wN w q1 (arL 8 AC)) i _) q2 (arI 4 AC)) i _) hi5).trans ((wN_ad (w := wS (wN w q1 (arL 8 AC)) i _) hi3).trans ((wN_ad hi).trans ha))) ((wN_E (w := wS (wN (wS (wN w q1 (arL 8 AC)) i _) q2 (arI 4 AC)) i _) hi5).trans wS_E1) rfl in_P ty_P nm_P (by decide) t_62 (Or.inl rfl) rfl rfl rfl (by decide +kernel) rfl rfl (by show _ < List.length _; simp) d_P_init_23 rfl ?_
  have hi6 : i < w.1 + 1 + 1 + 1 := by omega
  have ha6 : va_up (va_up (va_up w.2.1 w.1 q1) (w.1 + 1) q2) (w.1 + 1 + 1) q3 i = a := by rw [va_up_ne _ _ (by omega), va_up_ne _ _ (by omega), va_up_ne _ _ (by omega)]; exact ha
  refine g_aload_n hX d_P_init_26 rfl 0 rfl ?_
  refine g_iconst (v := -1) hX d_P_init_27 (by decide) ?_
  refine g_putf (i := i) (kf := 7) (ty := .int) hX hi6 ha6 wS_E1 rfl in_P ty_P nm_P (by decide) t_70 (Or.inl rfl) rfl (by decide +kernel) rfl rfl (by show _ < List.length _; simp) d_P_init_28 rfl ?_
  refine g_aload_n hX d_P_init_31 rfl 0 rfl ?_
  refine g_iconst (v := -1) hX d_P_init_32 (by decide) ?_
  refine g_putf (i := i) (kf := 8) (ty := .int) hX hi6 ha6 wS_E1 rfl in_P ty_P nm_P (by decide) t_74 (Or.inl rfl) rfl (by decide +kernel) rfl rfl (by show _ < List.length _; simp) d_P_init_33 rfl ?_
  refine g_eqw (w' := parW AC w i q1 q2 q3) (ww_ext rfl (fun j hj => ⟨?_, ?_⟩)) ?_
  · show va_up (va_up (va_up w.2.1 w.1 q1) (w.1 + 1) q2) (w.1 + 1 + 1) q3 j = if j = w.1 then q1 else if j = w.1 + 1 then q2 else if j = w.1 + 2 then q3 else w.2.1 j
    simp only [va_up]
    by_cases e1 : j = w.1
    · subst e1; rw [if_neg (by omega), if_neg (by omega), if_pos rfl, if_pos rfl]
    · rw [if_neg e1]
      by_cases e2 : j = w.1 + 1
      · subst e2; rw [if_neg (by omega), if_pos rfl, if_pos rfl]
      · rw [if_neg e2]
        by_cases e3 : j = w.1 + 2
        · rw [if_pos (by omega), if_pos e3]
        · rw [if_neg (by omega), if_neg e2, if_neg e1, if_neg e3]
  · by_cases e0 : j = i
    · subst e0
      refine wS_E1.trans ?_
      show _ = if j = j then par1 q1 q2 q3 else _
      rw [if_pos rfl]
    · refine (wS_E e0).trans ((wS_E e0).trans ((wS_E e0).trans ?_))
      show _ = if j = i then _ else if j = w.1 then arL 8 AC else if j = w.1 + 1 then arI 4 AC else if j = w.1 + 2 then arI 4 AC else w.2.2 j
      rw [if_neg e0]
      by_cases e3 : j = w.1 + 2
      · subst e3
        rw [if_neg (by omega), if_neg (by omega), if_pos rfl]
        exact wN_E1
      · have hj3 : j < w.1 + 1 + 1 + 1 := hj
        refine (wN_E (by show j < w.1 + 1 + 1; omega)).trans ((wS_E e0).trans ?_)
        by_cases e2 : j = w.1 + 1
        · subst e2
          rw [if_neg (by omega), if_pos rfl]
          exact wN_E1
        · refine (wN_E (by show j < w.1 + 1; omega)).trans ((wS_E e0).trans ?_)
          by_cases e1 : j = w.1
          · subst e1
            rw [if_pos rfl]
            exact wN_E1
          · rw [if_neg e1, if_neg e2, if_neg e3]
            exact wN_E (by omega)
  · exact g_vret hX rfl d_P_init_36 (h q1 q2 q3)

