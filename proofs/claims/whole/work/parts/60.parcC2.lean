theorem cpy_in {α : Type} {f g : Nat → α} {sp dp n j : Nat} (h : dp ≤ j ∧ j < dp + n) : va_cpy f g sp dp n j = f (sp + (j - dp)) := if_pos h
theorem cpy_out {α : Type} {f g : Nat → α} {sp dp n j : Nat} (h : ¬ (dp ≤ j ∧ j < dp + n)) : va_cpy f g sp dp n j = g j := if_neg h
theorem cl0 : (0 : Int32).toNatClampNeg = 0 := by decide
theorem cl4 : (4 : Int32).toNatClampNeg = 4 := by decide
theorem cl8 : (8 : Int32).toNatClampNeg = 8 := by decide
set_option maxHeartbeats 4000000 in
theorem ok_makeFor (Γ : Ev) {σ : St} {p b : Nat} (hp : p < 80) (hb : b < 8) {v : Int64} {post : St → Prop} {thr : String → St → Prop} (h : ∀ σ', exA p σ σ' → rC σ' p (some (v, va_up (fun _ => (0, 1)) b (1, 1), 0, fun _ => (0, 0), 0)) → σ'.I 4 p = σ.I 4 p → σ'.I 5 p = σ.I 5 p → post σ') : wp_P_makeFor Γ p (nI b) v σ post thr := by
  refine ⟨hp, ok_fill Γ hp (fun f hf => ⟨vp_in_nI hb (by decide), ?_⟩)⟩
  rw [nI_clamp (by omega)]
  refine h _ ((((((exA.I (by omega) (by omega)).tr exA.L).tr (exA.L1 hp)).tr (exA.L1 hp)).tr (exA.I (by omega) (by omega))).tr (exA.I (by omega) (by omega))) ?_ ?_ ?_
  · refine ⟨?_, ?_, fun s hs => ?_, ?_, fun r hr => absurd hr (Nat.not_lt_zero _), ?_⟩
    · simp (disch := omega) only [I_aI_s, I_aI_n, I_aL, L_aI, pk_us, pk_un]
    · simp (disch := omega) only [L_aL_s, L_aL_n, L_aI, I_aL, pk_uLs, pk_uLn]
    · simp (disch := omega) only [L_aL_s, L_aL_n, L_aI, I_aL]
      show vp_updL f b _ s = pkS (va_up (fun _ => (0, 1)) b (1, 1) s)
      by_cases e : s = b
      · subst e; rw [pk_uLs, va_up_self]; decide
      · rw [pk_uLn e, va_up_ne _ _ e, hf s hs]; rfl
    · simp (disch := omega) only [I_aI_s, I_aI_n, I_aL, L_aI, pk_us, pk_un]
      rfl
    · simp (disch := omega) only [I_aI_s, I_aI_n, I_aL, L_aI, pk_us, pk_un]
  · simp (disch := omega) only [I_aI_s, I_aI_n, I_aL, L_aI, pk_us, pk_un]
  · simp (disch := omega) only [I_aI_s, I_aI_n, I_aL, L_aI, pk_us, pk_un]
set_option maxHeartbeats 4000000 in
theorem ok_makeFrom (Γ : Ev) {σ : St} {p q : Nat} {x : Pd} (hp : p < 80) (hq : q < 80) (hne : q ≠ p) (hx : rD σ q x) (hm : x.mn ≤ 4) {v : Int64} {post : St → Prop} {thr : String → St → Prop} (h : ∀ σ', exA p σ σ' → rC σ' p (some (v, x.sh, x.mn, x.mo, 0)) → σ'.I 4 p = σ.I 4 p → σ'.I 5 p = σ.I 5 p → post σ') : wp_P_makeFrom Γ p q v σ post thr := by
  obtain ⟨x1, x2, x3, x4, x5⟩ := hx
  refine ⟨hp, hq, by decide, by decide, by decide, by decide, by decide, by decide, by decide, by decide, by decide, by decide, by decide, by decide, by decide, by decide, by decide, ?_⟩
  refine h _ (((((((exA.I (by omega) (by omega)).tr exA.L).tr (exA.L1 hp)).tr (exA.I (by omega) (by omega))).tr (exA.I1 hp)).tr (exA.I2 hp)).tr (exA.I (by omega) (by omega))) ?_ ?_ ?_
  · refine ⟨?_, ?_, fun s hs => ?_, ?_, fun r hr => ⟨?_, ?_⟩, ?_⟩
    · simp (disch := omega) only [I_aI_s, I_aI_n, I_aL, L_aI, pk_us, pk_un]
    · simp (disch := omega) only [L_aL_s, L_aL_n, L_aI, I_aL, pk_uLs, pk_uLn]
    · simp (disch := omega) only [L_aL_s, L_aL_n, L_aI, I_aL, cl0, cl8, cpy_in]
      rw [show 0 + (s - 0) = s by omega]
      exact x2 s hs
    · simp (disch := omega) only [I_aI_s, I_aI_n, I_aL, L_aI, pk_us, pk_un]
      exact x3
    · have hr : r < x.mn := hr
      simp (disch := omega) only [I_aI_s, I_aI_n, I_aL, L_aI, cl0, cl4, cpy_in]
      rw [show 0 + (r - 0) = r by omega]
      exact (x4 r hr).1
    · have hr : r < x.mn := hr
      simp (disch := omega) only [I_aI_s, I_aI_n, I_aL, L_aI, cl0, cl4, cpy_in]
      rw [show 0 + (r - 0) = r by omega]
      exact (x4 r hr).2
    · simp (disch := omega) only [I_aI_s, I_aI_n, I_aL, L_aI, pk_us, pk_un]
  · simp (disch := omega) only [I_aI_s, I_aI_n, I_aL, L_aI, pk_us, pk_un]
  · simp (disch := omega) only [I_aI_s, I_aI_n, I_aL, L_aI, pk_us, pk_un]
