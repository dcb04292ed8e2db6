/-! Numbers: longs and ints that are not negative, as Nat; Euclid's way on both sides -/
theorem lNi {n : Nat} (h : n < 2 ^ 63) : (lN n).toInt = (n : Int) := Int64.toInt_ofNat_of_lt h
theorem lN_inj {a b : Nat} (ha : a < 2 ^ 63) (hb : b < 2 ^ 63) : lN a = lN b ↔ a = b := by
  rw [← Int64.toInt_inj, lNi ha, lNi hb]; omega
theorem lN_leq {a b : Nat} (ha : a < 2 ^ 63) (hb : b < 2 ^ 63) : lN a ≤ lN b ↔ a ≤ b := by
  rw [Int64.le_iff_toInt_le, lNi ha, lNi hb]; omega
theorem lN_ltt {a b : Nat} (ha : a < 2 ^ 63) (hb : b < 2 ^ 63) : lN a < lN b ↔ a < b := by
  rw [Int64.lt_iff_toInt_lt, lNi ha, lNi hb]; omega
theorem lN_0 : (0 : Int64) = lN 0 := rfl
theorem lN_div {a b : Nat} (ha : a < 2 ^ 63) (hb : b < 2 ^ 63) : lN a / lN b = lN (a / b) := by
  have hd : a / b < 2 ^ 63 := Nat.lt_of_le_of_lt (Nat.div_le_self _ _) ha
  rw [← Int64.toInt_inj, lNi hd, Int64.toInt_div, lNi ha, lNi hb, ← Int.ofNat_tdiv]
  generalize a / b = q at hd
  exact Int.bmod_eq_of_le (by omega) (by omega)
theorem lN_rem {a b : Nat} (ha : a < 2 ^ 63) (hb : b < 2 ^ 63) : lN a - lN a / lN b * lN b = lN (a % b) := by
  rw [lN_div ha hb, lN_mul, lN_sub (Nat.div_mul_le_self a b)]
  congr 1
  have := Nat.mod_add_div a b
  rw [Nat.mul_comm] at this
  omega
theorem gcd_step {a b : Nat} : Nat.gcd b (a % b) = Nat.gcd a b := by rw [Nat.gcd_comm a b, Nat.gcd_rec b a, Nat.gcd_comm]
theorem lN_ne0 {b : Nat} (hb : b < 2 ^ 63) (h : 0 < b) : ¬ lN b = 0 := fun z => by
  have := (lN_inj hb (by decide)).mp (z.trans lN_0)
  omega
/-- the reference's divisor -/
theorem ok_divL (Γ : Ev) {post : Int64 → St → Prop} {thr : String → St → Prop} {σ : St} : ∀ (b a : Nat), a < 2 ^ 63 → b < 2 ^ 63 → post (lN (Nat.gcd a b)) σ → ∃ f, wp_M_divisor_6 Γ post thr f (lN a) (lN b) σ := by
  intro b
  induction b using Nat.strongRecOn with
  | _ b ih =>
    intro a ha hb h
    by_cases h0 : b = 0
    · subst h0
      refine ⟨1, br_t ((lg_cmp_eq _ _).mpr rfl) ?_⟩
      rw [Nat.gcd_zero_right] at h
      exact h
    · have hlt := Nat.mod_lt a (Nat.pos_of_ne_zero h0)
      obtain ⟨f, hf⟩ := ih (a % b) hlt b hb (by omega) (by rw [gcd_step]; exact h)
      have hne := lN_ne0 hb (Nat.pos_of_ne_zero h0)
      refine ⟨f + 1, br_f (fun z => hne ((lg_cmp_eq _ _).mp z)) ⟨hne, ?_⟩⟩
      rw [lN_rem ha hb]
      exact hf
theorem ok_div (Γ : Ev) {a b : Nat} (ha : a < 2 ^ 63) (hb : b < 2 ^ 63) {σ : St} {post : Int64 → St → Prop} {thr : String → St → Prop} (h : post (lN (Nat.gcd a b)) σ) : wp_M_divisor Γ (lN a) (lN b) σ post thr := ok_divL Γ b a ha hb h
/-- the class's: within its steps where b < 2 ^ n, by two steps a bit -/
theorem ok_cdL (Γ : Ev) {post : Int64 → St → Prop} {thr : String → St → Prop} {σ : St} : ∀ (n b a k : Nat), a < 2 ^ 63 → b < 2 ^ n → n < 63 → k + 2 * n < 100 → 0 < Nat.gcd a b → post (lN (Nat.gcd a b)) σ → ∃ f, wp_LR_commonDivisor_9 Γ post thr f (lN a) (lN b) (nI k) σ := by
  have fin : ∀ (a : Nat), a < 2 ^ 63 → 0 < a → post (lN a) σ → wp_LR_commonDivisor_44 Γ post thr (lN a) σ := fun a ha h0 h => br_f (fun z => by
    have := (lg_cmp_le _ _).mp z
    rw [lN_0, lN_leq ha (by decide)] at this
    omega) h
  intro n
  induction n with
  | zero =>
    intro b a k ha hb hn hk hg h
    obtain rfl : b = 0 := by simpa using hb
    rw [Nat.gcd_zero_right] at hg h
    exact ⟨1, br_f (nI_ge (a := k) (b := 100) (by omega) (by decide)) (br_t ((lg_cmp_eq _ _).mpr rfl) (fin a ha hg h))⟩
  | succ n ih =>
    intro b a k ha hb hn hk hg h
    by_cases h0 : b = 0
    · subst h0
      rw [Nat.gcd_zero_right] at hg h
      exact ⟨1, br_f (nI_ge (a := k) (b := 100) (by omega) (by decide)) (br_t ((lg_cmp_eq _ _).mpr rfl) (fin a ha hg h))⟩
    · have hb63 : b < 2 ^ 63 := Nat.lt_of_lt_of_le hb (Nat.pow_le_pow_right (by decide) (by omega))
      have hne := lN_ne0 hb63 (Nat.pos_of_ne_zero h0)
      have hlt := Nat.mod_lt a (Nat.pos_of_ne_zero h0)
      have one : (∃ f, wp_LR_commonDivisor_9 Γ post thr f (lN b) (lN (a % b)) (nI (k + 1)) σ) → ∃ f, wp_LR_commonDivisor_9 Γ post thr f (lN a) (lN b) (nI k) σ := fun ⟨f, hf⟩ => ⟨f + 1, br_f (nI_ge (a := k) (b := 100) (by omega) (by decide)) (br_f (fun z => hne ((lg_cmp_eq _ _).mp z)) ⟨hne, by rw [lN_rem ha hb63, nI_1]; exact hf⟩)⟩
      apply one
      by_cases h1 : a % b = 0
      · rw [h1]
        rw [← gcd_step, h1, Nat.gcd_zero_right] at hg h
        exact ⟨1, br_f (nI_ge (a := k + 1) (b := 100) (by omega) (by decide)) (br_t ((lg_cmp_eq _ _).mpr rfl) (fin b hb63 hg h))⟩
      · have hr63 : a % b < 2 ^ 63 := by omega
        have hne1 := lN_ne0 hr63 (Nat.pos_of_ne_zero h1)
        have hlt1 := Nat.mod_lt b (Nat.pos_of_ne_zero h1)
        have hhalf : b % (a % b) < 2 ^ n := by
          have h2 : 2 ^ (n + 1) = 2 * 2 ^ n := by rw [Nat.pow_succ, Nat.mul_comm]
          have := Nat.mod_add_div b (a % b)
          have h3 : 1 ≤ b / (a % b) := (Nat.le_div_iff_mul_le (Nat.pos_of_ne_zero h1)).mpr (by omega)
          have h4 : (a % b) * 1 ≤ (a % b) * (b / (a % b)) := Nat.mul_le_mul_left _ h3
          omega
        obtain ⟨f, hf⟩ := ih (b % (a % b)) (a % b) (k + 2) hr63 hhalf (by omega) (by omega) (by rw [gcd_step, gcd_step]; exact hg) (by rw [gcd_step, gcd_step]; exact h)
        exact ⟨f + 1, br_f (nI_ge (a := k + 1) (b := 100) (by omega) (by decide)) (br_f (fun z => hne1 ((lg_cmp_eq _ _).mp z)) ⟨hne1, by rw [lN_rem hb63 hr63, nI_1]; exact hf⟩)⟩
theorem ok_cd (Γ : Ev) {a b : Nat} (ha : a < 2 ^ 63) (hb : b < 2 ^ 48) (hg : 0 < Nat.gcd a b) {σ : St} {post : Int64 → St → Prop} {thr : String → St → Prop} (h : post (lN (Nat.gcd a b)) σ) : wp_LR_commonDivisor Γ (lN a) (lN b) σ post thr := ok_cdL Γ 48 b a 0 ha hb (by decide) (by decide) hg h
