/-! The reference's agreed -/
theorem ag_step (Γ : Ev) {k31 : Int32 → Int32 → Int32 → Int32 → Int32 → Int32 → Int32 → St → Prop} {post : Int32 → St → Prop} {thr : String → St → Prop} {x1 x2 x5 x6 x8 m0 : Int32} {b c r : Nat} {σ : St} (hb : b ≤ 4) (hc : c ≤ 4) (hr : r ≤ 5) (hbc : b ≠ c) (hm : (m0 = 1 ∧ r = b) ∨ (m0 = 0 ∧ r ≠ b))
    (h : k31 x1 x2 (nI b) (nI c) (if (r = b ∧ b < c) ∨ (c ≤ r ∧ r < b) then x5 ||| x8 else x5) (if (r = b ∧ c < b) ∨ (b < r ∧ r ≤ c) then x6 ||| x8 else x6) (nI r + 1) σ) : wp_M_agreed_70 Γ k31 post thr x1 x2 (nI b) (nI c) x5 x6 (nI r) x8 m0 σ := by
  have c1 : nI c ≤ nI b ↔ c ≤ b := nI_leI (by omega) (by omega)
  have c2 : nI r < nI c ↔ r < c := nI_ltI (by omega) (by omega)
  have c3 : nI b ≤ nI r ↔ b ≤ r := nI_leI (by omega) (by omega)
  have c4 : nI r ≤ nI b ↔ r ≤ b := nI_leI (by omega) (by omega)
  have c5 : nI c < nI r ↔ c < r := nI_ltI (by omega) (by omega)
  have c6 : nI b < nI c ↔ b < c := nI_ltI (by omega) (by omega)
  have c7 : nI b ≤ nI c ↔ b ≤ c := nI_leI (by omega) (by omega)
  have c8 : nI c < nI b ↔ c < b := nI_ltI (by omega) (by omega)
  have n1 : ((1 : Int32) = 0) = False := by decide
  have n0 : ((0 : Int32) = 0) = True := by decide
  rcases hm with ⟨rfl, e⟩ | ⟨rfl, e⟩
  · simp only [wp_M_agreed_70, wp_M_agreed_116, wp_M_agreed_95, wp_M_agreed_117, wp_M_agreed_130, wp_M_agreed_141, wp_M_agreed_149, wp_M_agreed_151, wp_M_agreed_164, wp_M_agreed_175, wp_M_agreed_183, wp_M_agreed_185, c1, c2, c3, c4, c5, c6, c7, c8, n1, n0, not_true_eq_false, not_false_eq_true, false_implies, true_implies, true_and, and_true]
    repeat' (first | apply And.intro | intro _)
    all_goals first
      | (exfalso; omega)
      | (rw [if_pos (by omega), if_pos (by omega)] at h; exact h)
      | (rw [if_pos (by omega), if_neg (by omega)] at h; exact h)
      | (rw [if_neg (by omega), if_pos (by omega)] at h; exact h)
      | (rw [if_neg (by omega), if_neg (by omega)] at h; exact h)
  · simp only [wp_M_agreed_70, wp_M_agreed_116, wp_M_agreed_95, wp_M_agreed_117, wp_M_agreed_130, wp_M_agreed_141, wp_M_agreed_149, wp_M_agreed_151, wp_M_agreed_164, wp_M_agreed_175, wp_M_agreed_183, wp_M_agreed_185, c1, c2, c3, c4, c5, c6, c7, c8, n1, n0, not_true_eq_false, not_false_eq_true, false_implies, true_implies, true_and, and_true]
    repeat' (first | apply And.intro | intro _)
    all_goals first
      | (exfalso; omega)
      | (rw [if_pos (by omega), if_pos (by omega)] at h; exact h)
      | (rw [if_pos (by omega), if_neg (by omega)] at h; exact h)
      | (rw [if_neg (by omega), if_pos (by omega)] at h; exact h)
      | (rw [if_neg (by omega), if_neg (by omega)] at h; exact h)
theorem bits_step {mo : Nat → Int32 × Int32} {lo n r : Nat} : (if lo ≤ r ∧ r < lo + n then bitsA mo lo (min (r - lo) n) ||| ((1 : Int32) <<< ((mo (r - 1)).1 &&& 31)) else bitsA mo lo (min (r - lo) n)) = bitsA mo lo (min (r + 1 - lo) n) := by
  by_cases h : lo ≤ r ∧ r < lo + n
  · rw [if_pos h, show min (r + 1 - lo) n = min (r - lo) n + 1 by omega]
    show _ = bitsA mo lo (min (r - lo) n) ||| ((1 : Int32) <<< ((mo (lo + min (r - lo) n - 1)).1 &&& 31))
    rw [show lo + min (r - lo) n - 1 = r - 1 by omega]
  · rw [if_neg h, show min (r + 1 - lo) n = min (r - lo) n by omega]
theorem ok_agreed (Γ : Ev) {σ : St} {n a b c mn : Nat} {mo : Nat → Int32 × Int32} {e : Int32} (hn : n < 40) (ha : a < 80) (hb1 : 1 ≤ b) (hc1 : 1 ≤ c) (hbm : b ≤ mn) (hcm : c ≤ mn) (hbc : b ≠ c) (hmn : mn ≤ 4) (h24 : σ.I 24 n = nI a) (h25 : σ.I 25 n = nI b) (h26 : σ.I 26 n = nI c) (h27 : σ.I 27 n = e) (h30 : σ.I 30 a = nI mn) (h31 : ∀ r, r < mn → σ.I 31 (4 * a + r) = (mo r).1) {post : Int32 → St → Prop} {thr : String → St → Prop}
    (h : post (if needA mo b c &&& (e ^^^ -1) = 0 then 1 else 0) σ) : wp_M_agreed Γ (nI n) σ post thr := by
  have hin : vp_in (nI n) 40 := vp_in_nI hn (by decide)
  have ia : vp_in (nI a) 80 := vp_in_nI ha (by decide)
  have en : (nI n).toNatClampNeg = n := nI_clamp (by omega)
  have ea : (nI a).toNatClampNeg = a := nI_clamp (by omega)
  have lp : ∀ (k r : Nat) (x5 x6 : Int32), r + k = mn + 1 → 1 ≤ r → x5 = (if b < c then bitsA mo b (min (r - b) 1) else bitsA mo c (min (r - c) (b - c))) → x6 = (if b < c then bitsA mo (b + 1) (min (r - (b + 1)) (c - b)) else bitsA mo b (min (r - b) 1)) → wp_M_agreed_31 Γ post thr (k + 1) (nI n) (nI a) (nI b) (nI c) x5 x6 (nI r) σ := by
    intro k
    induction k with
    | zero =>
      intro r x5 x6 hr h1 e5 e6
      obtain rfl : r = mn + 1 := by omega
      have hneed : x5 &&& (x6 ^^^ -1) = needA mo b c := by
        rw [e5, e6]
        unfold needA
        by_cases hl : b < c
        · rw [if_pos hl, if_pos hl, if_pos hl, show min (mn + 1 - b) 1 = 1 by omega, show min (mn + 1 - (b + 1)) (c - b) = c - b by omega]
        · rw [if_neg hl, if_neg hl, if_neg hl, show min (mn + 1 - c) (b - c) = b - c by omega, show min (mn + 1 - b) 1 = 1 by omega]
      refine ⟨ia, fun _ => ⟨hin, ?_⟩, fun z => absurd (by rw [ea, h30]; exact nI_lt (by omega) (by omega)) z⟩
      rw [en, h27, hneed]
      refine ⟨fun z => ?_, fun z => ?_⟩
      · rw [if_neg z] at h; exact h
      · rw [if_pos z] at h; exact h
    | succ k ih =>
      intro r x5 x6 hr h1 e5 e6
      have e4 : (4 : Int32) * nI a + nI r - 1 = nI (4 * a + (r - 1)) := by
        rw [i4, show (1 : Int32) = nI 1 from rfl, nI_subN (by omega)]
        congr 1
        omega
      refine ⟨ia, fun z => absurd z (by rw [ea, h30]; exact nI_nlt (by omega) (by omega)), fun _ => ?_⟩
      rw [e4, nI_clamp (by omega), h31 (r - 1) (by omega)]
      refine ⟨vp_in_nI (by omega) (by decide), ?_⟩
      have hrb : nI r = nI b ↔ r = b := nI_eq (by omega) (by omega)
      have key : wp_M_agreed_31 Γ post thr (k + 1) (nI n) (nI a) (nI b) (nI c) (if (r = b ∧ b < c) ∨ (c ≤ r ∧ r < b) then x5 ||| ((1 : Int32) <<< ((mo (r - 1)).1 &&& 31)) else x5) (if (r = b ∧ c < b) ∨ (b < r ∧ r ≤ c) then x6 ||| ((1 : Int32) <<< ((mo (r - 1)).1 &&& 31)) else x6) (nI r + 1) σ := by
        rw [nI_1]
        refine ih (r + 1) _ _ (by omega) (by omega) ?_ ?_
        · rw [e5]
          by_cases hl : b < c
          · rw [if_pos hl, if_pos hl, ← bits_step]
            by_cases h3 : r = b
            · rw [if_pos (by omega), if_pos (by omega)]
            · rw [if_neg (by omega), if_neg (by omega)]
          · rw [if_neg hl, if_neg hl, ← bits_step]
            by_cases h3 : c ≤ r ∧ r < b
            · rw [if_pos (by omega), if_pos (by omega)]
            · rw [if_neg (by omega), if_neg (by omega)]
        · rw [e6]
          by_cases hl : b < c
          · rw [if_pos hl, if_pos hl, ← bits_step]
            by_cases h3 : b < r ∧ r ≤ c
            · rw [if_pos (by omega), if_pos (by omega)]
            · rw [if_neg (by omega), if_neg (by omega)]
          · rw [if_neg hl, if_neg hl, ← bits_step]
            by_cases h3 : r = b
            · rw [if_pos (by omega), if_pos (by omega)]
            · rw [if_neg (by omega), if_neg (by omega)]
      exact ⟨fun z => ag_step Γ (by omega) (by omega) (by omega) hbc (Or.inr ⟨rfl, fun y => z (hrb.mpr y)⟩) key, fun z => ag_step Γ (by omega) (by omega) (by omega) hbc (Or.inl ⟨rfl, hrb.mp z⟩) key⟩
  refine ⟨hin, hin, hin, mn + 1, ?_⟩
  rw [en, h24, h25, h26]
  refine lp mn 1 0 0 (by omega) (by omega) ?_ ?_
  · by_cases hl : b < c
    · rw [if_pos hl, show min (1 - b) 1 = 0 by omega]; rfl
    · rw [if_neg hl, show min (1 - c) (b - c) = 0 by omega]; rfl
  · by_cases hl : b < c
    · rw [if_pos hl, show min (1 - (b + 1)) (c - b) = 0 by omega]; rfl
    · rw [if_neg hl, show min (1 - b) 1 = 0 by omega]; rfl
