/-! The reference's reason of a deed -/
theorem nI_mulN (a b : Nat) : nI a * nI b = nI (a * b) := (Int32.ofNat_mul a b).symm
theorem nI_subN {a b : Nat} (h : b ≤ a) : nI a - nI b = nI (a - b) := by
  have z := nI_add (a - b) b
  rw [show a - b + b = a by omega] at z
  rw [← z, Int32.add_sub_cancel]
theorem nI_divN {a b : Nat} (ha : a < 2 ^ 31) (hb : b < 2 ^ 31) : nI a / nI b = nI (a / b) := by
  have hd : a / b < 2 ^ 31 := Nat.lt_of_le_of_lt (Nat.div_le_self _ _) ha
  rw [← Int32.toInt_inj, nI_toInt hd, Int32.toInt_div, nI_toInt ha, nI_toInt hb, ← Int.ofNat_tdiv]
  generalize a / b = q at hd
  exact Int.bmod_eq_of_le (by omega) (by omega)
theorem lN_subneg {x y : Nat} (hx : x < 2 ^ 62) (hy : y < 2 ^ 62) (h : x < y) : ¬ 0 ≤ lg_cmp (lN x - lN y) (0 : Int64) := by
  rw [lg_cmp_ge, Int64.le_iff_toInt_le, Int64.toInt_sub, lNi (by omega), lNi (by omega), Int.bmod_eq_of_le (by omega) (by omega)]
  show ¬ (0 : Int) ≤ _
  omega
theorem ok_mlow (Γ : Ev) {n d : Nat} (hd : 0 < d) (hd2 : d < 2 ^ 63) (hn : n < 2 ^ 63) {σ : St} {post : Int64 → St → Prop} {thr : String → St → Prop} (h : post (lN (red n d).2) σ) : wp_M_lowest Γ (lN n) (lN d) σ post thr := by
  by_cases h0 : n = 0
  · subst h0
    exact ⟨fun z => absurd ((lg_cmp_eq _ _).mpr rfl) z, fun _ => h⟩
  · refine ⟨fun _ => ?_, fun z => absurd ((lg_cmp_eq _ _).mp z) (lN_ne0 hn (Nat.pos_of_ne_zero h0))⟩
    have hg : 0 < Nat.gcd n d := Nat.gcd_pos_of_pos_right _ hd
    have hgd : Nat.gcd n d ≤ d := Nat.gcd_le_right n hd
    refine ok_div Γ hn hd2 ⟨lN_ne0 (by omega) hg, ?_⟩
    rw [lN_div hd2 (by omega)]
    rw [show (red n d).2 = d / Nat.gcd n d by unfold red; rw [if_neg h0]] at h
    exact h
/-- the places of a sale -/
theorem sl_s {a b c : Nat} (ha : a < 80) (hb : b < 8) (hc : c < 8) : (8 : Int32) * nI a + nI (8 * b + c) / (8 : Int32) = nI (8 * a + b) := by
  rw [show (8 : Int32) = nI 8 from rfl, nI_mulN, nI_divN (by omega) (by decide), nI_add, show (8 * b + c) / 8 = b by omega]
theorem sl_b {a b c : Nat} (ha : a < 80) (hb : b < 8) (hc : c < 8) : (8 : Int32) * nI a + (nI (8 * b + c) - nI (8 * b + c) / (8 : Int32) * (8 : Int32)) = nI (8 * a + c) := by
  rw [show (8 : Int32) = nI 8 from rfl, nI_mulN, nI_divN (by omega) (by decide), nI_mulN, nI_subN (by omega), nI_add, show 8 * b + c - (8 * b + c) / 8 * 8 = c by omega]
theorem ok_ofSale (Γ : Ev) {σ : St} {x : Pd} {n a b c k : Nat} {f : Nat × Nat} (hn : n < 40) (ha : a < 80) (hb : b < 8) (hc : c < 8) (hf : frOK f) (hx : ∀ s, s < 8 → σ.L 4 (8 * a + s) = lN (x.sh s).1 ∧ σ.L 5 (8 * a + s) = lN (x.sh s).2) (hB : ∀ s, s < 8 → shB k (x.sh s)) (hk : k ≤ 900)
    (h24 : σ.I 24 n = nI a) (h25 : σ.I 25 n = nI (8 * b + c)) (h26 : σ.I 26 n = nI f.1) (h27 : σ.I 27 n = nI f.2) {post : Int32 → St → Prop} {thr : String → St → Prop}
    (h : post (nI (if (x.sh b).1 * f.2 < f.1 * (x.sh b).2 then 3 else if (subS (x.sh b) f).2 ≤ 1000000 ∧ (addS (x.sh c) f).2 ≤ 1000000 then 0 else 4)) σ) : wp_M_ofSale Γ (nI n) σ post thr := by
  have hin : vp_in (nI n) 40 := vp_in_nI hn (by decide)
  obtain ⟨f1, f2, f3⟩ := id hf
  unfold wp_M_ofSale
  simp only [nI_clamp (show n < 2 ^ 31 by omega), h24, h25, h26, h27, sl_s ha hb hc, sl_b ha hb hc, nI_clamp (show 8 * a + b < 2 ^ 31 by omega), nI_clamp (show 8 * a + c < 2 ^ 31 by omega), (hx b hb).1, (hx b hb).2, (hx c hc).1, nI_l (show f.1 < 2 ^ 31 by omega), nI_l (show f.2 < 2 ^ 31 by omega), lN_mul]
  have ib : vp_in (nI (8 * a + b)) 640 := vp_in_nI (by omega) (by decide)
  have ic : vp_in (nI (8 * a + c)) 640 := vp_in_nI (by omega) (by decide)
  refine ⟨hin, hin, hin, hin, hin, ib, ib, ib, ?_⟩
  obtain ⟨a1, a2, a3, a4, a5, a6⟩ := sub_n (hB b hb) hf
  obtain ⟨c1, c2, c3, c4, c5, c6⟩ := sub_n (hB c hc) hf
  have hb1 : k * ((x.sh b).2 * f.2) ≤ 900 * ((x.sh b).2 * f.2) := Nat.mul_le_mul_right _ hk
  have hc1 : (k + 1) * ((x.sh c).2 * f.2) ≤ 901 * ((x.sh c).2 * f.2) := Nat.mul_le_mul_right _ (by omega)
  have hbok := (hB b hb).ok (by omega)
  have g1 : lg_cmp (lN (x.sh b).1) (0 : Int64) = 0 ↔ (x.sh b).1 = 0 := by
    rw [lg_cmp_eq, lN_0, lN_inj (by have := hbok.1; omega) (by decide)]
  refine ⟨fun z => ?_, fun z => ?_⟩
  · have z := g1.mp z
    rw [if_pos (by rw [z, Nat.zero_mul]; exact Nat.mul_pos f1 (hB b hb).1)] at h
    exact h
  · by_cases hl : (x.sh b).1 * f.2 < f.1 * (x.sh b).2
    · rw [if_pos hl] at h
      exact ⟨fun y => absurd y (lN_subneg (by omega) (by omega) hl), fun _ => h⟩
    · rw [if_neg hl] at h
      rw [lN_sub (by omega)]
      refine ⟨fun _ => ⟨ic, ic, ib, ?_⟩, fun y => absurd ((lg_cmp_ge _ _).mpr (by rw [lN_0, lN_leq (by decide) (by omega)]; omega)) y⟩
      refine ok_mlow Γ a1 (by omega) (by omega) ?_
      have gt : ∀ q, q < 2 ^ 63 → (0 < lg_cmp (lN q) (1000000 : Int64) ↔ ¬ q ≤ 1000000) := fun q hq => by
        rw [lg_cmp_gt, show (1000000 : Int64) = lN 1000000 from rfl, lN_ltt (by decide) hq]; omega
      have le : ∀ q, q < 2 ^ 63 → (lg_cmp (lN q) (1000000 : Int64) ≤ 0 ↔ q ≤ 1000000) := fun q hq => by
        rw [lg_cmp_le, show (1000000 : Int64) = lN 1000000 from rfl, lN_leq hq (by decide)]
      have rl : ∀ n d : Nat, 0 < d → (red n d).2 ≤ d := fun n d hd => by
        unfold red
        by_cases h0 : n = 0
        · rw [if_pos h0]; exact hd
        · rw [if_neg h0]; exact Nat.div_le_self _ _
      have r1 : (subS (x.sh b) f).2 ≤ (x.sh b).2 * f.2 := rl _ _ a1
      have r2 : (addS (x.sh c) f).2 ≤ (x.sh c).2 * f.2 := rl _ _ c1
      refine ⟨fun y => ?_, fun y => ⟨ic, ?_⟩⟩
      · rw [if_neg (fun w => (gt (subS (x.sh b) f).2 (by omega)).mp y w.1)] at h
        exact ⟨fun y => absurd y (by decide), fun _ => h⟩
      · have hs1 : (subS (x.sh b) f).2 ≤ 1000000 := by
          by_cases w : (subS (x.sh b) f).2 ≤ 1000000
          · exact w
          · exact absurd ((gt (subS (x.sh b) f).2 (by omega)).mpr w) y
        simp only [(hx c hc).2, lN_mul, lN_add]
        refine ok_mlow Γ c1 (by omega) (by omega) ?_
        refine ⟨fun y => ?_, fun y => ?_⟩
        · rw [if_pos ⟨hs1, (le (addS (x.sh c) f).2 (by omega)).mp y⟩] at h
          exact ⟨fun _ => h, fun w => absurd rfl w⟩
        · rw [if_neg (fun w => y ((le (addS (x.sh c) f).2 (by omega)).mpr w.2))] at h
          exact ⟨fun w => absurd w (by decide), fun _ => h⟩
theorem i8 {p s : Nat} : (8 : Int32) * nI p + nI s = nI (8 * p + s) := by rw [show (8 : Int32) = nI 8 from rfl, nI_mulN, nI_add]
theorem i4 {p s : Nat} : (4 : Int32) * nI p + nI s = nI (4 * p + s) := by rw [show (4 : Int32) = nI 4 from rfl, nI_mulN, nI_add]
theorem ok_sameSh (Γ : Ev) {σ : St} {p q : Nat} (hp : p < 80) (hq : q < 80) {f g : Nat → Nat × Nat} (hf : ∀ s, s < 8 → (σ.L 4 (8 * p + s) = lN (f s).1 ∧ σ.L 5 (8 * p + s) = lN (f s).2) ∧ shOK (f s)) (hg : ∀ s, s < 8 → (σ.L 4 (8 * q + s) = lN (g s).1 ∧ σ.L 5 (8 * q + s) = lN (g s).2) ∧ shOK (g s)) {post : Int32 → St → Prop} {thr : String → St → Prop} (h : post (if eqN f g 8 = true then 1 else 0) σ) : wp_M_sameShares Γ (nI p) (nI q) σ post thr := by
  have lp0 : ∀ (r i : Nat), i + r = 8 → ¬ eqN f g 8 = true → wp_M_sameShares_5 Γ post thr (r + 1) (nI p) (nI q) 0 (nI i) σ := by
    intro r
    induction r with
    | zero =>
      intro i hi hs
      obtain rfl : i = 8 := by omega
      rw [if_neg hs] at h
      exact ⟨fun _ => ⟨Or.inl rfl, h⟩, fun z => absurd (by decide) z⟩
    | succ r ih =>
      intro i hi hs
      refine ⟨fun z => absurd z (nI_ge (a := i) (b := 8) (by omega) (by decide)), fun _ => ⟨fun _ => ?_, fun z => absurd rfl z⟩⟩
      show wp_M_sameShares_5 Γ post thr (r + 1) (nI p) (nI q) 0 (nI i + 1) σ
      rw [nI_1]
      exact ih (i + 1) (by omega) hs
  have lp : ∀ (r i : Nat), i + r = 8 → (∀ s, s < i → f s = g s) → wp_M_sameShares_5 Γ post thr (r + 1) (nI p) (nI q) 1 (nI i) σ := by
    intro r
    induction r with
    | zero =>
      intro i hi hs
      obtain rfl : i = 8 := by omega
      rw [if_pos (eqN_iff.mpr hs)] at h
      exact ⟨fun _ => ⟨Or.inr rfl, h⟩, fun z => absurd (by decide) z⟩
    | succ r ih =>
      intro i hi hs
      have i1 : vp_in (nI (8 * p + i)) 640 := vp_in_nI (by omega) (by decide)
      have i2 : vp_in (nI (8 * q + i)) 640 := vp_in_nI (by omega) (by decide)
      obtain ⟨⟨a1, a2⟩, a3, a4, a5, a6⟩ := hf i (by omega)
      obtain ⟨⟨b1, b2⟩, b3, b4, b5, b6⟩ := hg i (by omega)
      refine ⟨fun z => absurd z (nI_ge (a := i) (b := 8) (by omega) (by decide)), fun _ => ⟨fun z => absurd z (by decide), fun _ => ?_⟩⟩
      simp only [i8, nI_clamp (show 8 * p + i < 2 ^ 31 by omega), nI_clamp (show 8 * q + i < 2 ^ 31 by omega), a1, a2, b1, b2]
      have no : ¬ f i = g i → wp_M_sameShares_93 Γ (fun x1 x2 x3 x4 σ => wp_M_sameShares_5 Γ post thr (r + 1) x1 x2 x3 x4 σ) post thr (nI p) (nI q) (nI i) σ := fun e => by
        show wp_M_sameShares_5 Γ post thr (r + 1) (nI p) (nI q) 0 (nI i + 1) σ
        rw [nI_1]
        exact lp0 r (i + 1) (by omega) (fun y => e (eqN_iff.mp y i (by omega)))
      have yes : f i = g i → wp_M_sameShares_89 Γ (fun x1 x2 x3 x4 σ => wp_M_sameShares_5 Γ post thr (r + 1) x1 x2 x3 x4 σ) post thr (nI p) (nI q) (nI i) σ := fun e => by
        show wp_M_sameShares_5 Γ post thr (r + 1) (nI p) (nI q) 1 (nI i + 1) σ
        rw [nI_1]
        exact ih (i + 1) (by omega) (fun s hs1 => by rcases Nat.lt_succ_iff_lt_or_eq.mp hs1 with y | rfl; exact hs s y; exact e)
      refine ⟨i1, i2, fun z => no (fun y => z ((lg_cmp_eq _ _).mpr (by rw [y]))), fun z => ⟨i1, fun z2 => ?_, fun z2 => ⟨i1, i2, fun z3 => no (fun y => z3 ((lg_cmp_eq _ _).mpr (by rw [y]))), fun z3 => ?_⟩⟩⟩
      · have e1 : (f i).1 = (g i).1 := (lN_inj (by omega) (by omega)).mp ((lg_cmp_eq _ _).mp z)
        have e2 : (f i).1 = 0 := (lN_inj (by omega) (by decide)).mp ((lg_cmp_eq _ _).mp z2)
        exact yes (Prod.ext e1 (by rw [a6 e2, b6 (e1 ▸ e2)]))
      · have e1 : (f i).1 = (g i).1 := (lN_inj (by omega) (by omega)).mp ((lg_cmp_eq _ _).mp z)
        have e2 : (f i).2 = (g i).2 := (lN_inj (by omega) (by omega)).mp ((lg_cmp_eq _ _).mp z3)
        exact yes (Prod.ext e1 e2)
  exact ⟨9, lp 8 0 (by omega) (fun s hs => absurd hs (Nat.not_lt_zero _))⟩
theorem ok_sameMo (Γ : Ev) {σ : St} {p q : Nat} (hp : p < 80) (hq : q < 80) {f g : Nat → Int32 × Int32} {m k : Nat} (hm : σ.I 30 p = nI m) (hk : σ.I 30 q = nI k) (hm4 : m ≤ 4) (hk4 : k ≤ 4) (hf : ∀ r, r < m → σ.I 31 (4 * p + r) = (f r).1 ∧ σ.I 32 (4 * p + r) = (f r).2) (hg : ∀ r, r < k → σ.I 31 (4 * q + r) = (g r).1 ∧ σ.I 32 (4 * q + r) = (g r).2) {post : Int32 → St → Prop} {thr : String → St → Prop} (h : post (if m = k ∧ eqN f g m = true then 1 else 0) σ) : wp_M_sameMortgages Γ (nI p) (nI q) σ post thr := by
  have ip : vp_in (nI p) 80 := vp_in_nI hp (by decide)
  have heq : nI m = nI k ↔ m = k := nI_eq (by omega) (by omega)
  have z0 : ∀ f2 i, ¬ (m = k ∧ eqN f g m = true) → wp_M_sameMortgages_24 Γ post thr (f2 + 1) (nI p) (nI q) 0 (nI i) σ := fun f2 i hs => by
    rw [if_neg hs] at h
    exact ⟨ip, fun _ => ⟨Or.inl rfl, h⟩, fun _ => ⟨fun _ => ⟨Or.inl rfl, h⟩, fun z => absurd rfl z⟩⟩
  refine ⟨ip, vp_in_nI hq (by decide), ?_⟩
  rw [nI_clamp (by omega), nI_clamp (by omega), hm, hk]
  refine ⟨fun z => ⟨1, z0 0 0 (fun y => z (heq.mpr y.1))⟩, fun z => ?_⟩
  obtain rfl := heq.mp z
  have lp : ∀ (r i : Nat), i + r = m → (∀ s, s < i → f s = g s) → wp_M_sameMortgages_24 Γ post thr (r + 1) (nI p) (nI q) 1 (nI i) σ := by
    intro r
    induction r with
    | zero =>
      intro i hi hs
      obtain rfl : i = m := by omega
      rw [if_pos ⟨rfl, eqN_iff.mpr hs⟩] at h
      refine ⟨ip, fun _ => ⟨Or.inr rfl, h⟩, fun z => absurd ?_ z⟩
      rw [nI_clamp (by omega), hm]
      exact nI_le (Nat.le_refl _) (by omega)
    | succ r ih =>
      intro i hi hs
      have i1 : vp_in (nI (4 * p + i)) 320 := vp_in_nI (by omega) (by decide)
      have i2 : vp_in (nI (4 * q + i)) 320 := vp_in_nI (by omega) (by decide)
      obtain ⟨a1, a2⟩ := hf i (by omega)
      obtain ⟨b1, b2⟩ := hg i (by omega)
      refine ⟨ip, fun z => absurd z (by rw [nI_clamp (by omega), hm]; exact nI_ge (by omega) (by omega)), fun _ => ⟨fun z => absurd z (by decide), fun _ => ?_⟩⟩
      simp only [i4, nI_clamp (show 4 * p + i < 2 ^ 31 by omega), nI_clamp (show 4 * q + i < 2 ^ 31 by omega), a1, a2, b1, b2]
      have no : ¬ f i = g i → wp_M_sameMortgages_93 Γ (fun x1 x2 x3 x4 σ => wp_M_sameMortgages_24 Γ post thr (r + 1) x1 x2 x3 x4 σ) post thr (nI p) (nI q) (nI i) σ := fun e => by
        show wp_M_sameMortgages_24 Γ post thr (r + 1) (nI p) (nI q) 0 (nI i + 1) σ
        rw [nI_1]
        exact z0 r (i + 1) (fun y => e (eqN_iff.mp y.2 i (by omega)))
      refine ⟨i1, i2, fun z => no (fun y => z (by rw [y])), fun z => ⟨i1, i2, fun z2 => no (fun y => z2 (by rw [y])), fun z2 => ?_⟩⟩
      show wp_M_sameMortgages_24 Γ post thr (r + 1) (nI p) (nI q) 1 (nI i + 1) σ
      rw [nI_1]
      exact ih (i + 1) (by omega) (fun s hs1 => by rcases Nat.lt_succ_iff_lt_or_eq.mp hs1 with y | rfl; exact hs s y; exact Prod.ext z z2)
  exact ⟨m + 1, lp m 0 (by omega) (fun s hs => absurd hs (Nat.not_lt_zero _))⟩
