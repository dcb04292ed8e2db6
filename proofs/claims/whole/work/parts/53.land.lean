/-! The land, the deeds, and what the class and the reference make of them -/
section REGS
variable {σ : St} {k k' : Nat}
theorem I_aI_s {f : Nat → Int32} : (σ.aI k f).I k = f := va_up_self _ _ _
theorem I_aI_n {f : Nat → Int32} (h : k' ≠ k) : (σ.aI k f).I k' = σ.I k' := va_up_ne _ _ h
theorem L_aI {f : Nat → Int32} : (σ.aI k f).L = σ.L := rfl
theorem R_aI {f : Nat → Int32} : (σ.aI k f).Rf = σ.Rf := rfl
theorem L_aL_s {f : Nat → Int64} : (σ.aL k f).L k = f := va_up_self _ _ _
theorem L_aL_n {f : Nat → Int64} (h : k' ≠ k) : (σ.aL k f).L k' = σ.L k' := va_up_ne _ _ h
theorem I_aL {f : Nat → Int64} : (σ.aL k f).I = σ.I := rfl
theorem R_aL {f : Nat → Int64} : (σ.aL k f).Rf = σ.Rf := rfl
theorem R_aR_s {f : Nat → Option Nat} : (σ.aR k f).Rf k = f := va_up_self _ _ _
theorem R_aR_n {f : Nat → Option Nat} (h : k' ≠ k) : (σ.aR k f).Rf k' = σ.Rf k' := va_up_ne _ _ h
theorem I_aR {f : Nat → Option Nat} : (σ.aR k f).I = σ.I := rfl
theorem L_aR {f : Nat → Option Nat} : (σ.aR k f).L = σ.L := rfl
end REGS
/-- a parcel that lives: area, shares, how many mortgages, the mortgages, the cautions -/
abbrev Pd : Type := Int64 × (Nat → Nat × Nat) × Nat × (Nat → Int32 × Int32) × Int32
abbrev Pd.ar (x : Pd) : Int64 := x.1
abbrev Pd.sh (x : Pd) : Nat → Nat × Nat := x.2.1
abbrev Pd.mn (x : Pd) : Nat := x.2.2.1
abbrev Pd.mo (x : Pd) : Nat → Int32 × Int32 := x.2.2.2.1
abbrev Pd.wn (x : Pd) : Int32 := x.2.2.2.2
/-- the parcels, and what each was made of -/
abbrev Land : Type := (Nat → Option Pd) × (Nat → Int32 × Int32)
/-- a deed: kind, (record day, fact day), its numbers, consents, fraction -/
abbrev Dd : Type := Nat × (Nat × Nat) × (Nat × Nat × Nat) × Int32 × (Nat × Nat)
abbrev Dd.k (d : Dd) : Nat := d.1
abbrev Dd.rec (d : Dd) : Nat := d.2.1.1
abbrev Dd.fact (d : Dd) : Nat := d.2.1.2
abbrev Dd.a (d : Dd) : Nat := d.2.2.1.1
abbrev Dd.b (d : Dd) : Nat := d.2.2.1.2.1
abbrev Dd.c (d : Dd) : Nat := d.2.2.1.2.2
abbrev Dd.e (d : Dd) : Int32 := d.2.2.2.1
abbrev Dd.f (d : Dd) : Nat × Nat := d.2.2.2.2
/-- what the filing has seen to -/
def dOK (d : Dd) : Prop := match d.k with
  | 0 => 1 ≤ d.a ∧ d.a ≤ 1000000000 ∧ d.b < 8
  | 1 => d.a < 80 ∧ d.b < 8 ∧ d.c < 8 ∧ d.b ≠ d.c ∧ frOK d.f
  | 2 => d.a < 80 ∧ d.b < 8 ∧ 1 ≤ d.c ∧ d.c ≤ 1000000000
  | 3 => d.a < 80 ∧ 1 ≤ d.b ∧ d.b ≤ 4 ∧ 1 ≤ d.c ∧ d.c ≤ 4 ∧ d.b ≠ d.c
  | 4 => d.a < 80 ∧ 1 ≤ d.b ∧ d.b ≤ 4
  | 5 => d.a < 80 ∧ d.b < 8
  | 6 => d.a < 80 ∧ d.b < 8
  | 7 => d.a < 80 ∧ 1 ≤ d.b ∧ d.b ≤ 1000000000
  | 8 => d.a < 80 ∧ d.b < 80 ∧ d.a ≠ d.b
  | _ => False
/-- the class's registers of a parcel -/
def rC (σ : St) (p : Nat) : Option Pd → Prop
  | none => σ.I 1 p = 0
  | some x => σ.I 1 p = 1 ∧ σ.L 1 p = x.ar ∧ (∀ s, s < 8 → σ.L (100 + p) s = pkS (x.sh s)) ∧ σ.I 2 p = nI x.mn ∧ (∀ r, r < x.mn → σ.I (100 + p) r = (x.mo r).1 ∧ σ.I (200 + p) r = (x.mo r).2) ∧ σ.I 3 p = x.wn
/-- the reference's -/
def rM (σ : St) (p : Nat) : Option Pd → Prop
  | none => σ.I 29 p = 0
  | some x => σ.I 29 p = 1 ∧ σ.L 3 p = x.ar ∧ (∀ s, s < 8 → σ.L 4 (8 * p + s) = lN (x.sh s).1 ∧ σ.L 5 (8 * p + s) = lN (x.sh s).2) ∧ σ.I 30 p = nI x.mn ∧ (∀ r, r < x.mn → σ.I 31 (4 * p + r) = (x.mo r).1 ∧ σ.I 32 (4 * p + r) = (x.mo r).2) ∧ σ.I 33 p = x.wn
def RC (σ : St) (A : Land) : Prop := (∀ p, p < 80 → rC σ p (A.1 p)) ∧ ∀ p, p < 80 → σ.I 4 p = (A.2 p).1 ∧ σ.I 5 p = (A.2 p).2
def RM (σ : St) (A : Land) : Prop := (∀ p, p < 80 → rM σ p (A.1 p)) ∧ ∀ p, p < 80 → σ.I 34 p = (A.2 p).1 ∧ σ.I 35 p = (A.2 p).2
def pB (k : Nat) (x : Pd) : Prop := (∀ s, s < 8 → shB k (x.sh s)) ∧ x.mn ≤ 4
def LB (k : Nat) (A : Land) : Prop := ∀ p, p < 80 → ∀ x, A.1 p = some x → pB k x
/-- a deed's registers -/
def dC (Γ : Ev) (σ : St) (n : Nat) (d : Dd) : Prop := n < Γ.nd ∧ Γ.K n = 2 + d.k ∧ σ.I 6 n = nI n ∧ σ.I 7 n = nI d.rec ∧ σ.I 8 n = nI d.fact ∧ σ.I 10 n = nI d.a ∧ σ.I 11 n = nI d.b ∧ (1 ≤ d.k → d.k ≤ 3 → σ.I 12 n = nI d.c) ∧ (d.k = 3 → σ.I 13 n = d.e) ∧ (d.k = 1 → σ.L 2 n = pkS d.f)
def dM (σ : St) (n : Nat) (d : Dd) : Prop := σ.I 21 n = nI d.k ∧ σ.I 22 n = nI d.rec ∧ σ.I 23 n = nI d.fact ∧ σ.I 24 n = nI d.a ∧ σ.I 25 n = nI (if d.k = 1 then 8 * d.b + d.c else d.b) ∧ (d.k = 1 → σ.I 26 n = nI d.f.1 ∧ σ.I 27 n = nI d.f.2) ∧ (d.k = 2 → σ.I 26 n = nI d.c) ∧ (d.k = 3 → σ.I 26 n = nI d.c ∧ σ.I 27 n = d.e)
def living (P : Option Pd) (f : Pd → Nat) : Nat := match P with
  | none => 1
  | some x => f x
def closed (P : Option Pd) (f : Pd → Nat) : Nat := living P (fun x => if x.wn = 0 then f x else 2)
/-- the creditors of n ranks from lo on, as bits -/
def bitsA (mo : Nat → Int32 × Int32) (lo : Nat) : Nat → Int32
  | 0 => 0
  | n + 1 => bitsA mo lo n ||| ((1 : Int32) <<< ((mo (lo + n - 1)).1 &&& 31))
def needA (mo : Nat → Int32 × Int32) (b c : Nat) : Int32 := if b < c then bitsA mo b 1 &&& (bitsA mo (b + 1) (c - b) ^^^ -1) else bitsA mo c (b - c) &&& (bitsA mo b 1 ^^^ -1)
def eqN {α : Type} [DecidableEq α] (f g : Nat → α) : Nat → Bool
  | 0 => true
  | n + 1 => eqN f g n && decide (f n = g n)
theorem eqN_iff {α : Type} [DecidableEq α] {f g : Nat → α} {n : Nat} : eqN f g n = true ↔ ∀ i, i < n → f i = g i := by
  induction n with
  | zero => exact ⟨fun _ i h => absurd h (Nat.not_lt_zero _), fun _ => rfl⟩
  | succ n ih =>
    unfold eqN
    rw [Bool.and_eq_true, ih, decide_eq_true_iff]
    exact ⟨fun h i hi => by rcases Nat.lt_succ_iff_lt_or_eq.mp hi with z | rfl; exact h.1 i z; exact h.2, fun h => ⟨fun i hi => h i (by omega), h n (by omega)⟩⟩
def hindA (A : Land) (d : Dd) : Nat := match d.k with
  | 0 => 0
  | 1 => closed (A.1 d.a) (fun x => if (x.sh d.b).1 * d.f.2 < d.f.1 * (x.sh d.b).2 then 3 else if (subS (x.sh d.b) d.f).2 ≤ 1000000 ∧ (addS (x.sh d.c) d.f).2 ≤ 1000000 then 0 else 4)
  | 2 => closed (A.1 d.a) (fun x => if x.mn < 4 then 0 else 5)
  | 3 => closed (A.1 d.a) (fun x => if d.b ≤ x.mn ∧ d.c ≤ x.mn then (if needA x.mo d.b d.c &&& (d.e ^^^ -1) = 0 then 0 else 7) else 6)
  | 4 => living (A.1 d.a) (fun x => if d.b ≤ x.mn then 0 else 6)
  | 5 => living (A.1 d.a) (fun x => if (x.wn >>> (nI d.b &&& 31)) &&& 1 = 0 then 0 else 8)
  | 6 => living (A.1 d.a) (fun x => if (x.wn >>> (nI d.b &&& 31)) &&& 1 = 0 then 8 else 0)
  | 7 => closed (A.1 d.a) (fun x => if (nI d.b).toInt64 < x.ar then 0 else 9)
  | _ => living (A.1 d.a) (fun x => living (A.1 d.b) (fun y => if x.wn = 0 ∧ y.wn = 0 then (if eqN x.sh y.sh 8 = true then (if x.mn = y.mn ∧ eqN x.mo y.mo x.mn = true then 0 else 11) else 10) else 2))
theorem ok_closed (Γ : Ev) {σ : St} {p : Nat} {P : Option Pd} (hp : p < 80) (h : rC σ p P) {post : Int32 → St → Prop} {thr : String → St → Prop} (hn : P = none → post 1 σ) (hs : ∀ x, P = some x → post (if x.wn = 0 then 0 else 2) σ) : wp_P_closedness Γ p σ post thr := by
  refine ⟨hp, ?_⟩
  cases P with
  | none => exact ⟨fun z => absurd h z, fun _ => hn rfl⟩
  | some x =>
    obtain ⟨h1, -, -, -, -, h6⟩ := h
    have := hs x rfl
    refine ⟨fun _ => ?_, fun z => absurd (h1.symm.trans z) (by decide)⟩
    rw [h6]
    by_cases h0 : x.wn = 0
    · rw [if_pos h0] at this
      exact ⟨fun _ => this, fun z => absurd h0 z⟩
    · rw [if_neg h0] at this
      exact ⟨fun z => absurd z h0, fun _ => this⟩
/-- the creditors' bits, by the class's loop -/
theorem ok_bits (Γ : Ev) {σ : St} {p : Nat} (hp : p < 80) {mo : Nat → Int32 × Int32} {mn lo : Nat} (hm : ∀ r, r < mn → σ.I (100 + p) r = (mo r).1) (hmn : mn ≤ 4) (hlo : 1 ≤ lo) {post : Int32 → St → Prop} {thr : String → St → Prop} :
    ∀ (r n : Nat), lo + n + r ≤ mn + 1 → post (bitsA mo lo (n + r)) σ → wp_P_creditorsOf_5 Γ post thr (r + 1) p (nI (lo + n + r) - 1) (bitsA mo lo n) (nI (lo + n)) σ := by
  intro r
  induction r with
  | zero =>
    intro n h hpo
    refine ⟨hp, ⟨fun _ => hpo, fun z => absurd ?_ z⟩⟩
    obtain ⟨q, hq⟩ : ∃ q, lo + n + 0 = q + 1 := ⟨lo + n - 1, by omega⟩
    rw [show lo + n = q + 1 by omega, show q + 1 + 0 = q + 1 from rfl, nI_pred]
    exact nI_lt (by omega) (by omega)
  | succ r ih =>
    intro n h hpo
    obtain ⟨q, hq⟩ : ∃ q, lo + n = q + 1 := ⟨lo + n - 1, by omega⟩
    have e1 : nI (lo + n + (r + 1)) - 1 = nI (lo + n + r) := nI_pred (lo + n + r)
    have e2 : nI (lo + n) - 1 = nI q := by rw [hq]; exact nI_pred q
    refine ⟨hp, ⟨fun z => absurd z (by rw [e1]; exact nI_nlt (by omega) (by omega)), fun _ => ⟨?_, ?_⟩⟩⟩
    · rw [e2]; exact vp_in_nI (by omega) (by decide)
    · rw [e2, nI_clamp (by omega), hm q (by omega), nI_1]
      have z := ih (n + 1) (by omega) (by rw [show n + 1 + r = n + (r + 1) by omega]; exact hpo)
      rw [show bitsA mo lo (n + 1) = bitsA mo lo n ||| ((1 : Int32) <<< ((mo q).1 &&& 31)) by show bitsA mo lo n ||| _ = _; rw [show lo + n - 1 = q by omega]] at z
      rw [show lo + (n + 1) + r = lo + n + (r + 1) by omega] at z
      exact z
theorem ok_credOf (Γ : Ev) {σ : St} {p : Nat} (hp : p < 80) {mo : Nat → Int32 × Int32} {mn lo n : Nat} (hm : ∀ r, r < mn → σ.I (100 + p) r = (mo r).1) (hmn : mn ≤ 4) (hlo : 1 ≤ lo) (hn : lo + n ≤ mn + 1) {x y : Int32} (hx : x = nI lo) (hy : y = nI (lo + n) - 1) {post : Int32 → St → Prop} {thr : String → St → Prop} (h : post (bitsA mo lo n) σ) : wp_P_creditorsOf Γ p x y σ post thr := by
  subst hx hy
  refine ⟨hp, n + 1, ?_⟩
  have z := ok_bits Γ hp hm hmn hlo (post := post) (thr := thr) n 0 (by omega) (by rw [Nat.zero_add]; exact h)
  exact z
