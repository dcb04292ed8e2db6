/-! Shares: a share (t, b) is t / b; no share is (0, 1) -/
theorem u_tn {n : Nat} (h : n < 2 ^ 64) : (UInt64.ofNat n).toNat = n := Nat.mod_eq_of_lt h
theorem btg_and {a b c : Nat} (ha : a < 2 ^ 64) (hb : b < 2 ^ 64) (hc : a &&& b = c) : lN a &&& lN b = lN c := by
  subst hc
  have h : UInt64.ofNat a &&& UInt64.ofNat b = UInt64.ofNat (a &&& b) := UInt64.toNat_inj.mp (by rw [UInt64.toNat_and, u_tn ha, u_tn hb, u_tn (Nat.and_lt_two_pow a hb)])
  have h2 := congrArg UInt64.toInt64 h
  exact h2
theorem btg_mask {a s p : Nat} (hp : 2 ^ s = p) (hs : s < 64) (ha : a < 2 ^ 64) : lN a &&& lN (p - 1) = lN (a % p) := by
  subst hp
  have := Nat.pow_lt_pow_right (show 1 < 2 by decide) hs
  exact btg_and ha (by omega) (Nat.and_two_pow_sub_one_eq_mod a s)
theorem btg_or {k p a b : Nat} (hp : 2 ^ k = p) (ha : a < p) (h : b * p + a < 2 ^ 64) : lN (b * p) ||| lN a = lN (b * p + a) := by
  subst hp
  have h1 : b * 2 ^ k ||| a = b * 2 ^ k + a := by rw [← Nat.shiftLeft_eq, Nat.shiftLeft_add_eq_or_of_lt ha]
  have h3 : UInt64.ofNat (b * 2 ^ k) ||| UInt64.ofNat a = UInt64.ofNat (b * 2 ^ k + a) := UInt64.toNat_inj.mp (by rw [UInt64.toNat_or, u_tn (by omega), u_tn (by omega), u_tn h, h1])
  have h2 := congrArg UInt64.toInt64 h3
  exact h2
theorem btg_shl {a k p : Nat} {y : Int64} (hy : y.toBitVec.smod 64 = BitVec.ofNat 64 k) (hk : k < 64) (hp : 2 ^ k = p) (ha : a < 2 ^ 64) : lN a <<< y = lN (a * p) := by
  subst hp
  apply Int64.toBitVec_inj.mp
  rw [Int64.toBitVec_shiftLeft, hy]
  apply BitVec.eq_of_toNat_eq
  have hb : (lN a).toBitVec.toNat = a := Nat.mod_eq_of_lt ha
  have hk' : (BitVec.ofNat 64 k).toNat = k := Nat.mod_eq_of_lt (by omega)
  have h : ((lN a).toBitVec <<< BitVec.ofNat 64 k).toNat = (a * 2 ^ k) % 2 ^ 64 := by simp only [BitVec.shiftLeft_eq', BitVec.toNat_shiftLeft, hb, hk', Nat.shiftLeft_eq]
  exact h
theorem pf_lI {a : Nat} (h : a < 2 ^ 63) : (lN a).toInt = (a : Int) := lg_ofNat_toInt h
theorem pf_shr {a d : Nat} {D : Int64} (hD : (D.toBitVec.smod 64).toNat = d) (h : a < 2 ^ 62) : lN a >>> D = lN (a / 2 ^ d) := by
  have hd : a / 2 ^ d ≤ a := Nat.div_le_self _ _
  apply Int64.toInt_inj.mp
  have e : (lN a >>> D).toInt = (lN a).toInt >>> d := by
    rw [← hD]
    exact BitVec.toInt_sshiftRight ..
  rw [e, Int.shiftRight_eq_div_pow, pf_lI (by omega), pf_lI (by omega)]
  rfl
theorem pf_andw (x : Int64) : ∃ m, m < 2 ^ 32 ∧ x &&& 4294967295 = lN m := ⟨x.toBitVec.toNat % 2 ^ 32, Nat.mod_lt _ (by decide), Int64.toBitVec_inj.mp (BitVec.eq_of_toNat_eq (by
  show (x.toBitVec &&& 4294967295#64).toNat = (BitVec.ofNat 64 (x.toBitVec.toNat % 2 ^ 32)).toNat
  rw [BitVec.toNat_and, show (4294967295#64).toNat = 2 ^ 32 - 1 from by decide, Nat.and_two_pow_sub_one_eq_mod, BitVec.toNat_ofNat]
  omega))⟩
/-- a share as the class packs it -/
def pkS (s : Nat × Nat) : Int64 := if s.1 = 0 then 0 else lN (s.1 * 4294967296 + s.2)
def shOK (s : Nat × Nat) : Prop := s.1 < 1073741824 ∧ 0 < s.2 ∧ s.2 ≤ 1000000 ∧ (s.1 = 0 → s.2 = 1)
def red (n d : Nat) : Nat × Nat := if n = 0 then (0, 1) else (n / Nat.gcd n d, d / Nat.gcd n d)
theorem red_le {n d B : Nat} (hB : 0 < B) (hd : 0 < d) (h : n ≤ B * d) : (red n d).1 ≤ B * (red n d).2 := by
  unfold red
  by_cases h0 : n = 0
  · rw [if_pos h0]; exact Nat.zero_le _
  · rw [if_neg h0]
    have hg : 0 < Nat.gcd n d := Nat.gcd_pos_of_pos_right _ hd
    show n / Nat.gcd n d ≤ B * (d / Nat.gcd n d)
    rw [← Nat.mul_div_assoc _ (Nat.gcd_dvd_right n d)]
    exact Nat.div_le_div_right h
theorem red_pos {n d : Nat} (hd : 0 < d) : 0 < (red n d).2 := by
  unfold red
  by_cases h0 : n = 0
  · rw [if_pos h0]; exact Nat.one_pos
  · rw [if_neg h0]; exact Nat.div_pos (Nat.gcd_le_right n hd) (Nat.gcd_pos_of_pos_right _ hd)
theorem red_z {n d : Nat} (hd : 0 < d) (h : (red n d).1 = 0) : (red n d).2 = 1 := by
  unfold red at h ⊢
  by_cases h0 : n = 0
  · rw [if_pos h0]
  · rw [if_neg h0] at h
    have := Nat.div_pos (Nat.gcd_le_left d (Nat.pos_of_ne_zero h0)) (Nat.gcd_pos_of_pos_right n hd)
    exact absurd h (by show ¬ n / Nat.gcd n d = 0; omega)
theorem red_nz {n d : Nat} (hd : 0 < d) (h0 : ¬ n = 0) : ¬ (red n d).1 = 0 := by
  unfold red
  rw [if_neg h0]
  have := Nat.div_pos (Nat.gcd_le_left d (Nat.pos_of_ne_zero h0)) (Nat.gcd_pos_of_pos_right n hd)
  show ¬ n / Nat.gcd n d = 0
  omega
theorem red_ok {n d : Nat} (hd : 0 < d) (h : n ≤ 1000 * d) (hf : (red n d).2 ≤ 1000000) : shOK (red n d) := by
  have := red_le (B := 1000) (by decide) hd h
  exact ⟨by omega, red_pos hd, hf, red_z hd⟩
theorem pk_num (Γ : Ev) {s : Nat × Nat} (hs : shOK s) {σ : St} {post : Int64 → St → Prop} {thr : String → St → Prop} (h : post (lN s.1) σ) : wp_LR_numerator Γ (pkS s) σ post thr := by
  obtain ⟨t, b⟩ := s
  obtain ⟨h1, h2, h3, h4⟩ := hs
  unfold wp_LR_numerator pkS
  by_cases h0 : t = 0
  · subst h0
    rw [if_pos rfl]
    exact h
  · rw [if_neg h0, pf_shr (d := 32) (by decide) (by show t * 4294967296 + b < _; omega)]
    rw [show (t * 4294967296 + b) / 2 ^ 32 = t by omega]
    exact h
theorem pk_den {s : Nat × Nat} (hs : shOK s) : pkS s &&& (4294967295 : Int64) = if s.1 = 0 then 0 else lN s.2 := by
  obtain ⟨t, b⟩ := s
  obtain ⟨h1, h2, h3, h4⟩ := hs
  unfold pkS
  by_cases h0 : t = 0
  · subst h0
    rw [if_pos rfl, if_pos rfl]
    decide
  · rw [if_neg h0, if_neg h0]
    refine (btg_mask (s := 32) (p := 4294967296) (by decide) (by decide) (by show t * 4294967296 + b < _; omega)).trans ?_
    rw [show (t * 4294967296 + b) % 4294967296 = b by omega]
theorem pk_parts (Γ : Ev) {s : Nat × Nat} (hs : shOK s) {σ : St} {post : Int64 → St → Prop} {thr : String → St → Prop} (h : post (lN s.2) σ) : wp_LR_parts Γ (pkS s) σ post thr := by
  unfold wp_LR_parts wp_LR_denominator
  rw [pk_den hs]
  obtain ⟨t, b⟩ := s
  obtain ⟨h1, h2, h3, h4⟩ := hs
  by_cases h0 : t = 0
  · subst h0
    have : b = 1 := h4 rfl
    subst this
    exact h
  · rw [if_neg h0]
    have : ¬ lN b < (1 : Int64) := by
      rw [show (1 : Int64) = lN 1 from rfl, lN_ltt (by omega) (by decide)]
      omega
    show post (if lN b < 1 then 1 else lN b) σ
    rw [if_neg this]
    exact h
theorem ok_lowest (Γ : Ev) {n d : Nat} (hd : 0 < d) (hd2 : d < 2 ^ 48) (hn : n ≤ 1000 * d) {σ : St} {post : Int64 → St → Prop} {thr : String → St → Prop}
    (h : post (if (red n d).2 ≤ 1000000 then pkS (red n d) else -1) σ) : wp_LR_lowest Γ (lN n) (lN d) σ post thr := by
  have hn63 : n < 2 ^ 63 := by omega
  unfold wp_LR_lowest
  by_cases h0 : n = 0
  · subst h0
    exact ⟨fun z => absurd ((lg_cmp_eq _ _).mpr rfl) z, fun _ => h⟩
  · have hne := lN_ne0 hn63 (Nat.pos_of_ne_zero h0)
    refine ⟨fun _ => ?_, fun z => absurd ((lg_cmp_eq _ _).mp z) hne⟩
    have hg : 0 < Nat.gcd n d := Nat.gcd_pos_of_pos_right _ hd
    have hgd : Nat.gcd n d ≤ d := Nat.gcd_le_right n hd
    have hg63 : Nat.gcd n d < 2 ^ 63 := by omega
    have hgn := lN_ne0 hg63 hg
    have hr : red n d = (n / Nat.gcd n d, d / Nat.gcd n d) := if_neg h0
    refine ok_cd Γ hn63 hd2 hg ⟨hgn, ?_⟩
    rw [lN_div hn63 hg63, lN_div (by omega) hg63]
    have hdd : d / Nat.gcd n d ≤ d := Nat.div_le_self _ _
    have hq : lg_cmp (lN (d / Nat.gcd n d)) (1000000 : Int64) ≤ 0 ↔ (red n d).2 ≤ 1000000 := by
      rw [lg_cmp_le, show (1000000 : Int64) = lN 1000000 from rfl, lN_leq (by omega) (by decide), hr]
    refine ⟨fun z => ?_, fun z => ?_⟩
    · have hf := hq.mp z
      rw [if_pos hf] at h
      have hok := red_ok hd hn hf
      refine ⟨hgn, hgn, ?_⟩
      have hnz := red_nz hd h0
      unfold pkS at h
      rw [if_neg hnz] at h
      rw [hr] at h hok
      have h1 : n / Nat.gcd n d < 1073741824 := hok.1
      have h2 : d / Nat.gcd n d ≤ 1000000 := hok.2.2.1
      rw [btg_shl (k := 32) (p := 4294967296) (by decide) (by decide) (by decide) (by omega), btg_or (k := 32) (p := 4294967296) (by decide) (by omega) (by omega)]
      exact h
    · rw [if_neg (fun y => z (hq.mpr y))] at h
      exact h
/-- the share that is left, the share that comes to be -/
def subS (s f : Nat × Nat) : Nat × Nat := red (s.1 * f.2 - f.1 * s.2) (s.2 * f.2)
def addS (s f : Nat × Nat) : Nat × Nat := red (s.1 * f.2 + f.1 * s.2) (s.2 * f.2)
/-- a share that has been sold k times over -/
def shB (k : Nat) (s : Nat × Nat) : Prop := 0 < s.2 ∧ s.2 ≤ 1000000 ∧ (s.1 = 0 → s.2 = 1) ∧ s.1 ≤ k * s.2
def frOK (f : Nat × Nat) : Prop := 0 < f.1 ∧ f.1 ≤ f.2 ∧ f.2 ≤ 1000000
theorem shB.ok {k : Nat} {s : Nat × Nat} (h : shB k s) (hk : k ≤ 1000) : shOK s := by
  obtain ⟨h1, h2, h3, h4⟩ := h
  have : k * s.2 ≤ 1000 * s.2 := Nat.mul_le_mul_right _ hk
  exact ⟨by omega, h1, h2, h3⟩
theorem frOK.ok {f : Nat × Nat} (h : frOK f) : shOK f := ⟨by obtain ⟨a, b, c⟩ := h; omega, by obtain ⟨a, b, c⟩ := h; omega, h.2.2, fun z => absurd z (by have := h.1; omega)⟩
theorem frOK.pk {f : Nat × Nat} (h : frOK f) : pkS f = lN (f.1 * 4294967296 + f.2) := if_neg (by have := h.1; omega)
theorem sub_n {k : Nat} {s f : Nat × Nat} (h : shB k s) (hf : frOK f) : 0 < s.2 * f.2 ∧ s.2 * f.2 ≤ 1000000000000 ∧ s.1 * f.2 - f.1 * s.2 ≤ k * (s.2 * f.2) ∧ s.1 * f.2 + f.1 * s.2 ≤ (k + 1) * (s.2 * f.2) ∧ s.1 * f.2 ≤ k * (s.2 * f.2) ∧ f.1 * s.2 ≤ s.2 * f.2 := by
  obtain ⟨h1, h2, h3, h4⟩ := h
  obtain ⟨f1, f2, f3⟩ := hf
  have a1 : 0 < s.2 * f.2 := Nat.mul_pos h1 (by omega)
  have a2 : s.2 * f.2 ≤ 1000000 * 1000000 := Nat.mul_le_mul h2 f3
  have a3 : s.1 * f.2 ≤ k * s.2 * f.2 := Nat.mul_le_mul_right _ h4
  rw [Nat.mul_assoc] at a3
  have a4 : f.1 * s.2 ≤ f.2 * s.2 := Nat.mul_le_mul_right _ f2
  rw [Nat.mul_comm f.2 s.2] at a4
  have a5 : (k + 1) * (s.2 * f.2) = k * (s.2 * f.2) + s.2 * f.2 := Nat.succ_mul _ _
  exact ⟨a1, by omega, by omega, by omega, a3, a4⟩
theorem sub_B {k : Nat} {s f : Nat × Nat} (hk : 0 < k) (h : shB k s) (hf : frOK f) (hfine : (subS s f).2 ≤ 1000000) : shB k (subS s f) := by
  obtain ⟨a1, a2, a3, a4, a5, a6⟩ := sub_n h hf
  exact ⟨red_pos a1, hfine, red_z a1, red_le hk a1 a3⟩
theorem add_B {k : Nat} {s f : Nat × Nat} (h : shB k s) (hf : frOK f) (hfine : (addS s f).2 ≤ 1000000) : shB (k + 1) (addS s f) := by
  obtain ⟨a1, a2, a3, a4, a5, a6⟩ := sub_n h hf
  exact ⟨red_pos a1, hfine, red_z a1, red_le (by omega) a1 a4⟩
theorem shB.up {k j : Nat} {s : Nat × Nat} (h : shB k s) (hj : k ≤ j) : shB j s := ⟨h.1, h.2.1, h.2.2.1, Nat.le_trans h.2.2.2 (Nat.mul_le_mul_right _ hj)⟩
theorem ok_isLess (Γ : Ev) {k : Nat} {s f : Nat × Nat} (hk : k ≤ 900) (h : shB k s) (hf : frOK f) {σ : St} {post : Int32 → St → Prop} {thr : String → St → Prop} (hp : post (if s.1 * f.2 < f.1 * s.2 then 1 else 0) σ) : wp_LR_isLess Γ (pkS s) (pkS f) σ post thr := by
  obtain ⟨a1, a2, a3, a4, a5, a6⟩ := sub_n h hf
  have hb : k * (s.2 * f.2) ≤ 900 * (s.2 * f.2) := Nat.mul_le_mul_right _ hk
  have hs := h.ok (by omega)
  refine pk_num Γ hs (pk_parts Γ hf.ok (pk_num Γ hf.ok (pk_parts Γ hs ?_)))
  rw [lN_mul, lN_mul]
  have hq : 0 ≤ lg_cmp (lN (s.1 * f.2)) (lN (f.1 * s.2)) ↔ f.1 * s.2 ≤ s.1 * f.2 := by rw [lg_cmp_ge, lN_leq (by omega) (by omega)]
  refine ⟨fun z => ?_, fun z => ?_⟩
  · rw [if_neg (by have := hq.mp z; omega)] at hp
    exact hp
  · rw [if_pos (by by_cases y : f.1 * s.2 ≤ s.1 * f.2; exact absurd (hq.mpr y) z; omega)] at hp
    exact hp
theorem ok_minus (Γ : Ev) {k : Nat} {s f : Nat × Nat} (hk : k ≤ 900) (h : shB k s) (hf : frOK f) (hle : f.1 * s.2 ≤ s.1 * f.2) {σ : St} {post : Int64 → St → Prop} {thr : String → St → Prop} (hp : post (if (subS s f).2 ≤ 1000000 then pkS (subS s f) else -1) σ) : wp_LR_minus Γ (pkS s) (pkS f) σ post thr := by
  obtain ⟨a1, a2, a3, a4, a5, a6⟩ := sub_n h hf
  have hb : k * (s.2 * f.2) ≤ 900 * (s.2 * f.2) := Nat.mul_le_mul_right _ hk
  have hs := h.ok (by omega)
  refine pk_num Γ hs (pk_parts Γ hf.ok (pk_num Γ hf.ok (pk_parts Γ hs (pk_parts Γ hs (pk_parts Γ hf.ok ?_)))))
  rw [lN_mul, lN_mul, lN_mul, lN_sub hle]
  exact ok_lowest Γ a1 (by omega) (by omega) hp
theorem ok_plus (Γ : Ev) {k : Nat} {s f : Nat × Nat} (hk : k ≤ 900) (h : shB k s) (hf : frOK f) {σ : St} {post : Int64 → St → Prop} {thr : String → St → Prop} (hp : post (if (addS s f).2 ≤ 1000000 then pkS (addS s f) else -1) σ) : wp_LR_plus Γ (pkS s) (pkS f) σ post thr := by
  obtain ⟨a1, a2, a3, a4, a5, a6⟩ := sub_n h hf
  have hb : k * (s.2 * f.2) ≤ 900 * (s.2 * f.2) := Nat.mul_le_mul_right _ hk
  have hb1 : (k + 1) * (s.2 * f.2) = k * (s.2 * f.2) + s.2 * f.2 := Nat.succ_mul _ _
  have hs := h.ok (by omega)
  refine pk_num Γ hs (pk_parts Γ hf.ok (pk_num Γ hf.ok (pk_parts Γ hs (pk_parts Γ hs (pk_parts Γ hf.ok ?_)))))
  rw [lN_mul, lN_mul, lN_mul, lN_add]
  exact ok_lowest Γ a1 (by omega) (by omega) hp
theorem pkS_ne {s : Nat × Nat} (h : shOK s) : ¬ pkS s = -1 := by
  obtain ⟨h1, h2, h3, h4⟩ := h
  unfold pkS
  by_cases h0 : s.1 = 0
  · rw [if_pos h0]; decide
  · rw [if_neg h0, ← Int64.toInt_inj, lNi (by omega)]
    show ¬ ((s.1 * 4294967296 + s.2 : Nat) : Int) = -1
    omega
theorem pkS_inj {s r : Nat × Nat} (hs : shOK s) (hr : shOK r) : pkS s = pkS r ↔ s = r := by
  obtain ⟨t, b⟩ := s
  obtain ⟨u, v⟩ := r
  obtain ⟨h1, h2, h3, h4⟩ := hs
  obtain ⟨g1, g2, g3, g4⟩ := hr
  simp only at h1 h2 h3 h4 g1 g2 g3 g4
  unfold pkS
  by_cases h0 : t = 0
  · subst h0
    by_cases g0 : u = 0
    · subst g0
      have := h4 rfl
      have := g4 rfl
      subst b v
      simp
    · rw [if_pos rfl, if_neg g0]
      constructor
      · intro z
        have := (lN_inj (a := 0) (by decide) (by omega)).mp z
        omega
      · intro z; cases z; exact absurd rfl g0
  · by_cases g0 : u = 0
    · subst g0
      rw [if_neg h0, if_pos rfl]
      constructor
      · intro z
        have := (lN_inj (b := 0) (by omega) (by decide)).mp z
        omega
      · intro z; cases z; exact absurd rfl h0
    · rw [if_neg h0, if_neg g0, lN_inj (by omega) (by omega)]
      constructor
      · intro z
        obtain rfl : t = u := by omega
        obtain rfl : b = v := by omega
        rfl
      · intro z; cases z; rfl
