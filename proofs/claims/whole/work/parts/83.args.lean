/-! Arguments of the filing calls -/
abbrev psOK (x : Int32) : Prop := ¬ x < 0 ∧ x < 8
abbrev unOK (x : Int32) : Prop := ¬ x < 1 ∧ x ≤ 1000000000
abbrev rkOK (x : Int32) : Prop := ¬ x < 1 ∧ x ≤ 4
abbrev dyOK (t x : Int32) : Prop := ¬ x < 0 ∧ x ≤ t
abbrev top32 (x : Int64) : Int64 := x >>> (Int32.toInt64 (32 : Int32) &&& 63)
abbrev low32 (x : Int64) : Int64 := x &&& (4294967295 : Int64)
def frC (x : Int64) : Prop := ¬ low32 x < 1 ∧ low32 x ≤ 1000000 ∧ ¬ top32 x < 1 ∧ top32 x ≤ low32 x
def frN (x : Int64) : Nat × Nat := (x.toInt.toNat / 4294967296, x.toInt.toNat % 4294967296)
theorem xN_of {x : Int32} (h : ¬ x < 0) : x = nI ((x).toNatClampNeg) ∧ (x).toNatClampNeg < 2 ^ 31 := by
  obtain ⟨n, hn, rfl⟩ := nI_of h
  rw [nI_clamp hn]
  exact ⟨rfl, hn⟩
theorem xN_dy {x : Int32} {T : Nat} (hT : T ≤ 60) (h : dyOK (nI T) x) : x = nI ((x).toNatClampNeg) ∧ (x).toNatClampNeg ≤ T := by
  obtain ⟨e, l⟩ := xN_of h.1
  have h2 := h.2
  rw [e] at h2
  exact ⟨e, (nI_leI l (by omega)).mp h2⟩
theorem xN_pc {x : Int32} (h : pcOK x) : x = nI ((x).toNatClampNeg) ∧ (x).toNatClampNeg < 80 := by
  obtain ⟨e, l⟩ := xN_of h.1
  have h2 := h.2
  rw [e] at h2
  exact ⟨e, (nI_ltI (b := 80) l (by decide)).mp h2⟩
theorem xN_ps {x : Int32} (h : psOK x) : x = nI ((x).toNatClampNeg) ∧ (x).toNatClampNeg < 8 := by
  obtain ⟨e, l⟩ := xN_of h.1
  have h2 := h.2
  rw [e] at h2
  exact ⟨e, (nI_ltI (b := 8) l (by decide)).mp h2⟩
theorem n1_0 {x : Int32} (h : ¬ x < 1) : ¬ x < 0 := fun z => h (by
  rw [Int32.lt_iff_toInt_lt] at z ⊢
  have a : x.toInt < (0 : Int) := z
  show x.toInt < (1 : Int)
  omega)
theorem xN_un {x : Int32} (h : unOK x) : x = nI ((x).toNatClampNeg) ∧ 1 ≤ (x).toNatClampNeg ∧ (x).toNatClampNeg ≤ 1000000000 := by
  obtain ⟨e, l⟩ := xN_of (n1_0 h.1)
  have h1 := h.1
  have h2 := h.2
  rw [e] at h1 h2
  refine ⟨e, ?_, (nI_leI (b := 1000000000) l (by decide)).mp h2⟩
  by_cases w : (x).toNatClampNeg < 1
  · exact absurd (nI_lt (b := 1) w (by decide)) h1
  · omega
theorem xN_rk {x : Int32} (h : rkOK x) : x = nI ((x).toNatClampNeg) ∧ 1 ≤ (x).toNatClampNeg ∧ (x).toNatClampNeg ≤ 4 := by
  obtain ⟨e, l⟩ := xN_of (n1_0 h.1)
  have h1 := h.1
  have h2 := h.2
  rw [e] at h1 h2
  refine ⟨e, ?_, (nI_leI (b := 4) l (by decide)).mp h2⟩
  by_cases w : (x).toNatClampNeg < 1
  · exact absurd (nI_lt (b := 1) w (by decide)) h1
  · omega
theorem xN_ne {x y : Int32} (hx : ¬ x < 0) (hy : ¬ y < 0) (h : ¬ x = y) : (x).toNatClampNeg ≠ (y).toNatClampNeg := fun z => h (by rw [(xN_of hx).1, (xN_of hy).1, z])
theorem fr_nat {x : Int64} (h : frC x) : frOK (frN x) ∧ x = pkS (frN x) ∧ (top32 x).toInt32 = nI (frN x).1 ∧ (low32 x).toInt32 = nI (frN x).2 := by
  obtain ⟨h1, h2, h3, h4⟩ := h
  have et : (top32 x).toInt = x.toInt / 4294967296 := by
    have e : (top32 x).toInt = x.toInt >>> 32 := BitVec.toInt_sshiftRight ..
    rw [e, Int.shiftRight_eq_div_pow]
    rfl
  rw [Int64.lt_iff_toInt_lt] at h3
  have h3 : ¬ (top32 x).toInt < (1 : Int) := h3
  rw [Int64.le_iff_toInt_le] at h2 h4
  have h2 : (low32 x).toInt ≤ (1000000 : Int) := h2
  rw [et] at h3 h4
  have h0 : 0 ≤ x.toInt := by omega
  obtain ⟨a, ha⟩ : ∃ a : Nat, x.toInt = (a : Int) := ⟨x.toInt.toNat, by omega⟩
  have ha62 : a < 2 ^ 62 := by omega
  have ex : x = lN a := Int64.toInt_inj.mp (by rw [ha, pf_lI (by omega)])
  have eN : frN x = (a / 4294967296, a % 4294967296) := by unfold frN; rw [ha]; rfl
  have e1 : top32 x = lN (a / 4294967296) := by rw [ex]; exact pf_shr (d := 32) (by decide) ha62
  have e2 : low32 x = lN (a % 4294967296) := by rw [ex]; exact btg_mask (s := 32) (p := 4294967296) (by decide) (by decide) (by omega)
  rw [Int64.lt_iff_toInt_lt] at h1
  have h1 : ¬ (low32 x).toInt < (1 : Int) := h1
  rw [e2, pf_lI (by omega)] at h1 h2 h4
  rw [ha] at h3 h4
  have hm : a % 4294967296 ≤ 1000000 := by omega
  have ht1 : 0 < a / 4294967296 := by omega
  have htm : a / 4294967296 ≤ a % 4294967296 := by omega
  rw [eN, e1, e2]
  have fo : frOK (a / 4294967296, a % 4294967296) := ⟨ht1, htm, hm⟩
  refine ⟨fo, ?_, ?_, ?_⟩
  · rw [fo.pk, ex]
    show lN a = lN (a / 4294967296 * 4294967296 + a % 4294967296)
    congr 1
    omega
  · rw [← nI_l (by omega)]; exact Int32.toInt32_toInt64 _
  · rw [← nI_l (by omega)]; exact Int32.toInt32_toInt64 _
section REQ
variable {Γ : Ev} {σ : St} {post : St → Prop} {postI : Int32 → St → Prop} {thr : String → St → Prop} {x y : Int32}
theorem rq_rank (h : rkOK x → post σ) (hx : ¬ rkOK x → thr "java/lang/IllegalArgumentException" σ) : wp_LR_requireRank Γ x σ post thr :=
  ⟨fun z => hx (fun w => w.1 z), fun z => ⟨fun y => h ⟨z, y⟩, fun y => hx (fun w => y w.2)⟩⟩
theorem rq_diff (h : ¬ x = y → post σ) (hx : ¬ ¬ x = y → thr "java/lang/IllegalArgumentException" σ) : wp_LR_requireDifferent Γ x y σ post thr :=
  ⟨h, fun z => hx (fun w => w z)⟩
theorem rq_frac {x : Int64} (h : frC x → post σ) (hx : ¬ frC x → thr "java/lang/IllegalArgumentException" σ) : wp_LR_requireFraction Γ x σ post thr :=
  ⟨fun z => hx (fun w => w.1 ((lg_cmp_lt _ _).mp z)), fun z1 => ⟨fun z2 => ⟨fun z => hx (fun w => w.2.2.1 ((lg_cmp_lt _ _).mp z)), fun z3 => ⟨fun z4 => h ⟨fun w => z1 ((lg_cmp_lt _ _).mpr w), (lg_cmp_le _ _).mp z2, fun w => z3 ((lg_cmp_lt _ _).mpr w), (lg_cmp_le _ _).mp z4⟩, fun z => hx (fun w => z ((lg_cmp_le _ _).mpr w.2.2.2))⟩⟩, fun z => hx (fun w => z ((lg_cmp_le _ _).mpr w.2.1))⟩⟩
theorem no_amount (h : unOK x → postI 0 σ) (hx : ¬ unOK x → postI 1 σ) : wp_M_noAmount Γ x σ postI thr :=
  ⟨fun z => hx (fun w => w.1 z), fun z => ⟨fun y => h ⟨z, y⟩, fun y => hx (fun w => y w.2)⟩⟩
end REQ
/-- the registers are as before but for the deed N -/
def offN (σ σ1 : St) (N : Nat) : Prop := (∀ k i, (i ≠ N ∨ k < 6 ∨ 13 < k) → σ1.I k i = σ.I k i) ∧ (∀ k i, (i ≠ N ∨ k ≠ 2) → σ1.L k i = σ.L k i) ∧ σ1.Rf = σ.Rf
theorem offN_deed {σ : St} {N : Nat} : offN σ (St.deed σ N) N := by
  refine ⟨fun k i hk => ?_, fun k i hk => ?_, rfl⟩
  · show (if 6 ≤ k ∧ k ≤ 13 then upd (σ.I k) N 0 else σ.I k) i = _
    by_cases c : 6 ≤ k ∧ k ≤ 13
    · rw [if_pos c, pk_un (by omega)]
    · rw [if_neg c]
  · show (if k = 2 then vp_updL (σ.L 2) N 0 else σ.L k) i = _
    by_cases c : k = 2
    · subst c; rw [if_pos rfl, pk_uLn (by omega)]
    · rw [if_neg c]
theorem offN.sI {σ σ1 : St} {N k : Nat} {v : Int32} (h : offN σ σ1 N) (hk : 6 ≤ k ∧ k ≤ 13) : offN σ (St.sI σ1 k N v) N := by
  refine ⟨fun j i hj => ?_, h.2.1, h.2.2⟩
  by_cases c : j = k
  · subst c; rw [I_aI_s, pk_un (by omega)]; exact h.1 j i hj
  · rw [I_aI_n c]; exact h.1 j i hj
theorem offN.sL {σ σ1 : St} {N : Nat} {v : Int64} (h : offN σ σ1 N) : offN σ (St.sL σ1 2 N v) N := by
  refine ⟨h.1, fun j i hj => ?_, h.2.2⟩
  by_cases c : j = 2
  · subst c; rw [L_aL_s, pk_uLn (by omega)]; exact h.2.1 2 i hj
  · rw [L_aL_n c]; exact h.2.1 j i hj
theorem Ev.deed_nd {Γ : Ev} {N ci qa : Nat} (h : Γ.nd = N) : N < (Γ.deed ci qa).nd := by
  rw [← h]
  exact Nat.lt_succ_self _
theorem Ev.deed_K {Γ : Ev} {N ci qa : Nat} (h : Γ.nd = N) : (Γ.deed ci qa).K N = ci := by rw [← h]; exact va_up_self _ _ _
theorem n40 {N : Nat} (h : N ≤ 40) (z : ¬ nI N < 40) : N = 40 := by
  by_cases w : N = 40
  · exact w
  · exact absurd (nI_lt (b := 40) (by omega) (by decide)) z
theorem n40' {N : Nat} (h : N ≤ 40) (z : nI N < 40) : N < 40 := (nI_ltI (b := 40) (by omega) (by decide)).mp z
