/-! What the reference's deeds do is what the land's do -/
theorem land_ext {A B : Land} (h1 : ∀ p, A.1 p = B.1 p) (h2 : ∀ p, A.2 p = B.2 p) : A = B := Prod.ext (funext h1) (funext h2)
theorem LB_setP {k p : Nat} {A : Land} {P : Option Pd} (h : LB k A) (hP : ∀ x, P = some x → pB k x) : LB k (setP A p P) := fun q hq x hx => by
  by_cases e : q = p
  · subst e; rw [setP_s] at hx; exact hP x hx
  · rw [setP_n e] at hx; exact h q hq x hx
theorem LB_setO {k p : Nat} {A : Land} {o : Int32 × Int32} (h : LB k A) : LB k (setO A p o) := h
theorem ok_sells (Γ : Ev) {σ : St} {x : Pd} {n a b c k : Nat} {f : Nat × Nat} (hn : n < 40) (ha : a < 80) (hb : b < 8) (hc : c < 8) (hbc : b ≠ c) (hf : frOK f) (hx : ∀ s, s < 8 → σ.L 4 (8 * a + s) = lN (x.sh s).1 ∧ σ.L 5 (8 * a + s) = lN (x.sh s).2) (hB : ∀ s, s < 8 → shB k (x.sh s)) (hk : k ≤ 900) (hle : f.1 * (x.sh b).2 ≤ (x.sh b).1 * f.2)
    (h24 : σ.I 24 n = nI a) (h25 : σ.I 25 n = nI (8 * b + c)) (h26 : σ.I 26 n = nI f.1) (h27 : σ.I 27 n = nI f.2) {post : St → Prop} {thr : String → St → Prop}
    (h : post (St.sL (St.sL (St.sL (St.sL σ 4 (8 * a + b) (lN (subS (x.sh b) f).1)) 5 (8 * a + b) (lN (subS (x.sh b) f).2)) 4 (8 * a + c) (lN (addS (x.sh c) f).1)) 5 (8 * a + c) (lN (addS (x.sh c) f).2))) : wp_M_sells Γ (nI n) σ post thr := by
  have hin : vp_in (nI n) 40 := vp_in_nI hn (by decide)
  obtain ⟨f1, f2, f3⟩ := id hf
  obtain ⟨a1, a2, a3, a4, a5, a6⟩ := sub_n (hB b hb) hf
  obtain ⟨c1, c2, c3, c4, c5, c6⟩ := sub_n (hB c hc) hf
  have hb1 : k * ((x.sh b).2 * f.2) ≤ 900 * ((x.sh b).2 * f.2) := Nat.mul_le_mul_right _ hk
  have hc1 : (k + 1) * ((x.sh c).2 * f.2) ≤ 901 * ((x.sh c).2 * f.2) := Nat.mul_le_mul_right _ (by omega)
  have ib : vp_in (nI (8 * a + b)) 640 := vp_in_nI (by omega) (by decide)
  have ic : vp_in (nI (8 * a + c)) 640 := vp_in_nI (by omega) (by decide)
  unfold wp_M_sells
  simp only [nI_clamp (show n < 2 ^ 31 by omega), h24, h25, h26, h27, sl_s ha hb hc, sl_b ha hb hc, nI_clamp (show 8 * a + b < 2 ^ 31 by omega), nI_clamp (show 8 * a + c < 2 ^ 31 by omega), (hx b hb).1, (hx b hb).2, nI_l (show f.1 < 2 ^ 31 by omega), nI_l (show f.2 < 2 ^ 31 by omega), lN_mul, lN_sub hle]
  refine ⟨hin, hin, hin, hin, hin, ib, ib, ib, ?_⟩
  refine ok_setShare Γ (by omega) a1 (by omega) (by omega) ⟨ic, ic, ic, ?_⟩
  have e4 : St.L (St.sL (St.sL σ 4 (8 * a + b) (lN (subS (x.sh b) f).1)) 5 (8 * a + b) (lN (subS (x.sh b) f).2)) 4 (8 * a + c) = lN (x.sh c).1 := by
    simp (disch := omega) only [L_aL_s, L_aL_n, pk_uLn]; exact (hx c hc).1
  have e5 : St.L (St.sL (St.sL σ 4 (8 * a + b) (lN (subS (x.sh b) f).1)) 5 (8 * a + b) (lN (subS (x.sh b) f).2)) 5 (8 * a + c) = lN (x.sh c).2 := by
    simp (disch := omega) only [L_aL_s, L_aL_n, pk_uLn]; exact (hx c hc).2
  show wp_M_setShare Γ (nI (8 * a + c)) (St.L (St.sL (St.sL σ 4 (8 * a + b) (lN (subS (x.sh b) f).1)) 5 (8 * a + b) (lN (subS (x.sh b) f).2)) 4 (8 * a + c) * lN f.2 + lN f.1 * St.L (St.sL (St.sL σ 4 (8 * a + b) (lN (subS (x.sh b) f).1)) 5 (8 * a + b) (lN (subS (x.sh b) f).2)) 5 (8 * a + c)) (St.L (St.sL (St.sL σ 4 (8 * a + b) (lN (subS (x.sh b) f).1)) 5 (8 * a + b) (lN (subS (x.sh b) f).2)) 5 (8 * a + c) * lN f.2) _ _ thr
  rw [e4, e5, lN_mul, lN_mul, lN_mul, lN_add]
  exact ok_setShare Γ (by omega) c1 (by omega) (by omega) h
