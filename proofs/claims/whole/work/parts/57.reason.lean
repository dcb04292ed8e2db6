/-! The reference's reason is the land's -/
theorem bit01 (x : Int32) : x &&& 1 = 0 ∨ x &&& 1 = 1 := by
  rw [← Int32.toBitVec_inj, ← Int32.toBitVec_inj, Int32.toBitVec_and]
  have h : (x.toBitVec &&& 1#32).toNat = x.toBitVec.toNat % 2 := by
    rw [BitVec.toNat_and]
    exact Nat.and_two_pow_sub_one_eq_mod _ 1
  have h2 : x.toBitVec.toNat % 2 = 0 ∨ x.toBitVec.toNat % 2 = 1 := by omega
  rcases h2 with h2 | h2
  · exact Or.inl (BitVec.eq_of_toNat_eq (h.trans h2))
  · exact Or.inr (BitVec.eq_of_toNat_eq (h.trans h2))
theorem rs_51c (Γ : Ev) {σ : St} {a k : Nat} {x1 : Int32} {w : Int32} (ha : a < 80) (h33 : σ.I 33 a = w) (h4 : ¬ nI k = (4 : Int32)) (h5 : ¬ nI k = (5 : Int32)) (h6 : ¬ nI k = (6 : Int32)) (h8 : ¬ nI k = (8 : Int32)) {post : Int32 → St → Prop} {thr : String → St → Prop} (hz : w = 0 → wp_M_reason_108 Γ post thr x1 (nI k) (nI a) σ) (hw : ¬ w = 0 → post 2 σ) : wp_M_reason_51 Γ post thr x1 (nI k) (nI a) σ := by
  refine ⟨fun z => absurd z h4, fun _ => ⟨fun z => absurd z h5, fun _ => ⟨fun z => absurd z h6, fun _ => ⟨fun z => absurd z (by decide), fun _ => ⟨vp_in_nI ha (by decide), ?_⟩⟩⟩⟩⟩
  rw [nI_clamp (by omega), h33]
  exact ⟨fun z => ⟨fun y => absurd rfl y, fun _ => ⟨fun _ => hz z, fun y => absurd y h8⟩⟩, fun z => ⟨fun _ => hw z, fun y => absurd y (by decide)⟩⟩
theorem rs_51m (Γ : Ev) {σ : St} {a b n : Nat} {w v : Int32} (hn : n < 40) (ha : a < 80) (hb : b < 80) (h25 : σ.I 25 n = nI b) (h33 : σ.I 33 a = w) (h33b : σ.I 33 b = v) {post : Int32 → St → Prop} {thr : String → St → Prop} (hz : w = 0 → v = 0 → wp_M_reason_108 Γ post thr (nI n) (nI 8) (nI a) σ) (hw : ¬ (w = 0 ∧ v = 0) → post 2 σ) : wp_M_reason_51 Γ post thr (nI n) (nI 8) (nI a) σ := by
  refine ⟨fun z => absurd z (by decide), fun _ => ⟨fun z => absurd z (by decide), fun _ => ⟨fun z => absurd z (by decide), fun _ => ⟨fun z => absurd z (by decide), fun _ => ⟨vp_in_nI ha (by decide), ?_⟩⟩⟩⟩⟩
  rw [nI_clamp (by omega), h33]
  refine ⟨fun z => ⟨fun y => absurd rfl y, fun _ => ⟨fun y => absurd rfl y, fun _ => ⟨vp_in_nI hn (by decide), ?_⟩⟩⟩, fun z => ⟨fun _ => hw (fun q => z q.1), fun y => absurd y (by decide)⟩⟩
  rw [nI_clamp (by omega), h25]
  refine ⟨vp_in_nI hb (by decide), ?_⟩
  rw [nI_clamp (by omega), h33b]
  exact ⟨fun q => ⟨fun _ => hz z q, fun y => absurd rfl y⟩, fun q => ⟨fun y => absurd y (by decide), fun _ => hw (fun u => q u.2)⟩⟩
theorem rs_51o (Γ : Ev) {σ : St} {a k : Nat} {x1 : Int32} (hk : nI k = (4 : Int32) ∨ nI k = (5 : Int32) ∨ nI k = (6 : Int32)) {post : Int32 → St → Prop} {thr : String → St → Prop} (hz : wp_M_reason_108 Γ post thr x1 (nI k) (nI a) σ) : wp_M_reason_51 Γ post thr x1 (nI k) (nI a) σ := by
  have z71 : wp_M_reason_71 Γ post thr x1 (nI k) (nI a) σ := ⟨fun _ => hz, fun z => absurd rfl z⟩
  exact ⟨fun _ => z71, fun n4 => ⟨fun _ => z71, fun n5 => ⟨fun _ => z71, fun n6 => by rcases hk with h | h | h; exact absurd h n4; exact absurd h n5; exact absurd h n6⟩⟩⟩
theorem ok_reasonM (Γ : Ev) {σ : St} {A : Land} {n k : Nat} {d : Dd} (hn : n < 40) (hR : RM σ A) (hB : LB k A) (hk : k ≤ 900) (hd : dM σ n d) (ho : dOK d) {post : Int32 → St → Prop} {thr : String → St → Prop} (h : post (nI (hindA A d)) σ) : wp_M_reason Γ (nI n) σ post thr := by
  obtain ⟨kd, ⟨rc, fc⟩, ⟨a, b, c⟩, e, f⟩ := d
  obtain ⟨h21, h22, h23, h24, h25, h1, h2, h3⟩ := hd
  simp only [Dd.k, Dd.a, Dd.b, Dd.c, Dd.e, Dd.f, Dd.rec, Dd.fact] at h21 h22 h23 h24 h25 h1 h2 h3
  have hin : vp_in (nI n) 40 := vp_in_nI hn (by decide)
  have en : (nI n).toNatClampNeg = n := nI_clamp (by omega)
  refine ⟨hin, hin, ?_⟩
  rw [en, h21, h24]
  match kd, h21, h25, h1, h2, h3, ho, h with
  | 0, h21, h25, h1, h2, h3, ho, h => exact ⟨fun z => absurd rfl z, fun _ => h⟩
  | 1, h21, h25, h1, h2, h3, ho, h =>
    obtain ⟨oa, ob, oc, one, of⟩ : a < 80 ∧ b < 8 ∧ c < 8 ∧ b ≠ c ∧ frOK f := ho
    have h25 : σ.I 25 n = nI (8 * b + c) := h25
    have ea : (nI a).toNatClampNeg = a := nI_clamp (by omega)
    refine ⟨fun _ => ⟨vp_in_nI oa (by decide), ?_⟩, fun z => absurd z (by decide)⟩
    rw [ea]
    have rx := hR.1 a oa
    cases hA : A.1 a with
    | none =>
      rw [hA] at rx
      have e1 : hindA A (1, (rc, fc), (a, b, c), e, f) = 1 := by show closed (A.1 a) _ = 1; rw [hA]; rfl
      rw [e1] at h
      exact ⟨fun _ => h, fun z => absurd rx z⟩
    | some x =>
      rw [hA] at rx
      have hb := hB a oa x hA
      have hm4 := hb.2
      obtain ⟨x1, x2, x3, x4, x5, x6⟩ := rx
      refine ⟨fun z => absurd (x1.symm.trans z) (by decide), fun _ => ⟨fun _ => ?_, fun z => absurd z (by decide)⟩⟩
      refine rs_51c Γ oa x6 (by decide) (by decide) (by decide) (by decide) (fun hw => ?_) (fun hw => ?_)
      · have e1 : hindA A (1, (rc, fc), (a, b, c), e, f) = if (x.sh b).1 * f.2 < f.1 * (x.sh b).2 then 3 else if (subS (x.sh b) f).2 ≤ 1000000 ∧ (addS (x.sh c) f).2 ≤ 1000000 then 0 else 4 := by show closed (A.1 a) _ = _; rw [hA]; exact if_pos hw
        rw [e1] at h
        refine ⟨fun z => absurd z (by decide), fun _ => ?_, fun z => absurd z (by decide), fun z => absurd z (by decide), fun z => absurd z (by decide), fun z => absurd z (by decide), fun z => absurd z (by decide), fun z => absurd z (by decide)⟩
        exact ok_ofSale Γ hn oa ob oc of x3 hb.1 hk h24 h25 (h1 rfl).1 (h1 rfl).2 h
      · have e1 : hindA A (1, (rc, fc), (a, b, c), e, f) = 2 := by show closed (A.1 a) _ = 2; rw [hA]; exact if_neg hw
        rw [e1] at h
        exact h
  | 2, h21, h25, h1, h2, h3, ho, h =>
    obtain ⟨oa, ob, oc1, oc2⟩ : a < 80 ∧ b < 8 ∧ 1 ≤ c ∧ c ≤ 1000000000 := ho
    have h25 : σ.I 25 n = nI b := h25
    have ea : (nI a).toNatClampNeg = a := nI_clamp (by omega)
    refine ⟨fun _ => ⟨vp_in_nI oa (by decide), ?_⟩, fun z => absurd z (by decide)⟩
    rw [ea]
    have rx := hR.1 a oa
    cases hA : A.1 a with
    | none =>
      rw [hA] at rx
      have e1 : hindA A (2, (rc, fc), (a, b, c), e, f) = 1 := by show closed (A.1 a) _ = 1; rw [hA]; rfl
      rw [e1] at h
      exact ⟨fun _ => h, fun z => absurd rx z⟩
    | some x =>
      rw [hA] at rx
      have hb := hB a oa x hA
      have hm4 := hb.2
      obtain ⟨x1, x2, x3, x4, x5, x6⟩ := rx
      refine ⟨fun z => absurd (x1.symm.trans z) (by decide), fun _ => ⟨fun _ => ?_, fun z => absurd z (by decide)⟩⟩
      refine rs_51c Γ oa x6 (by decide) (by decide) (by decide) (by decide) (fun hw => ?_) (fun hw => ?_)
      · have e1 : hindA A (2, (rc, fc), (a, b, c), e, f) = if x.mn < 4 then 0 else 5 := by show closed (A.1 a) _ = _; rw [hA]; exact if_pos hw
        rw [e1] at h
        refine ⟨fun z => absurd z (by decide), fun z => absurd z (by decide), fun _ => ⟨vp_in_nI oa (by decide), ?_⟩, fun z => absurd z (by decide), fun z => absurd z (by decide), fun z => absurd z (by decide), fun z => absurd z (by decide), fun z => absurd z (by decide)⟩
        rw [ea, x4]
        have q : nI x.mn = (4 : Int32) ↔ x.mn = 4 := nI_eq (b := 4) (by omega) (by decide)
        refine ⟨fun y => ?_, fun y => ?_⟩
        · rw [if_pos (by have : ¬ x.mn = 4 := fun w => y (q.mpr w); omega)] at h; exact h
        · rw [if_neg (by have := q.mp y; omega)] at h; exact h
      · have e1 : hindA A (2, (rc, fc), (a, b, c), e, f) = 2 := by show closed (A.1 a) _ = 2; rw [hA]; exact if_neg hw
        rw [e1] at h
        exact h
  | 3, h21, h25, h1, h2, h3, ho, h =>
    obtain ⟨oa, ob1, ob2, oc1, oc2, one⟩ : a < 80 ∧ 1 ≤ b ∧ b ≤ 4 ∧ 1 ≤ c ∧ c ≤ 4 ∧ b ≠ c := ho
    have h25 : σ.I 25 n = nI b := h25
    have ea : (nI a).toNatClampNeg = a := nI_clamp (by omega)
    refine ⟨fun _ => ⟨vp_in_nI oa (by decide), ?_⟩, fun z => absurd z (by decide)⟩
    rw [ea]
    have rx := hR.1 a oa
    cases hA : A.1 a with
    | none =>
      rw [hA] at rx
      have e1 : hindA A (3, (rc, fc), (a, b, c), e, f) = 1 := by show closed (A.1 a) _ = 1; rw [hA]; rfl
      rw [e1] at h
      exact ⟨fun _ => h, fun z => absurd rx z⟩
    | some x =>
      rw [hA] at rx
      have hb := hB a oa x hA
      have hm4 := hb.2
      obtain ⟨x1, x2, x3, x4, x5, x6⟩ := rx
      refine ⟨fun z => absurd (x1.symm.trans z) (by decide), fun _ => ⟨fun _ => ?_, fun z => absurd z (by decide)⟩⟩
      refine rs_51c Γ oa x6 (by decide) (by decide) (by decide) (by decide) (fun hw => ?_) (fun hw => ?_)
      · have e1 : hindA A (3, (rc, fc), (a, b, c), e, f) = if b ≤ x.mn ∧ c ≤ x.mn then (if needA x.mo b c &&& (e ^^^ -1) = 0 then 0 else 7) else 6 := by show closed (A.1 a) _ = _; rw [hA]; exact if_pos hw
        rw [e1] at h
        refine ⟨fun z => absurd z (by decide), fun z => absurd z (by decide), fun z => absurd z (by decide), fun _ => ⟨hin, vp_in_nI oa (by decide), ?_⟩, fun z => absurd z (by decide), fun z => absurd z (by decide), fun z => absurd z (by decide), fun z => absurd z (by decide)⟩
        rw [ea, en, x4, h25, (h3 rfl).1]
        have q1 : nI x.mn < nI b ↔ x.mn < b := nI_ltI (by omega) (by omega)
        have q2 : nI c ≤ nI x.mn ↔ c ≤ x.mn := nI_leI (by omega) (by omega)
        refine ⟨fun y => ?_, fun y => ⟨hin, vp_in_nI oa (by decide), fun y2 => ?_, fun y2 => ?_⟩⟩
        · rw [if_neg (by have := q1.mp y; omega)] at h; exact h
        · have hbm : b ≤ x.mn := by
            by_cases w : x.mn < b
            · exact absurd (q1.mpr w) y
            · omega
          rw [if_pos ⟨hbm, q2.mp y2⟩] at h
          refine ok_agreed Γ hn oa ob1 oc1 hbm (q2.mp y2) one hm4 h24 h25 (h3 rfl).1 (h3 rfl).2 x4 (fun r hr => (x5 r hr).1) ?_
          by_cases w : needA x.mo b c &&& (e ^^^ -1) = 0
          · rw [if_pos w] at h ⊢; exact ⟨fun u => absurd u (by decide), fun _ => h⟩
          · rw [if_neg w] at h ⊢; exact ⟨fun _ => h, fun u => absurd rfl u⟩
        · rw [if_neg (fun w => y2 (q2.mpr w.2))] at h; exact h
      · have e1 : hindA A (3, (rc, fc), (a, b, c), e, f) = 2 := by show closed (A.1 a) _ = 2; rw [hA]; exact if_neg hw
        rw [e1] at h
        exact h
  | 4, h21, h25, h1, h2, h3, ho, h =>
    obtain ⟨oa, ob1, ob2⟩ : a < 80 ∧ 1 ≤ b ∧ b ≤ 4 := ho
    have h25 : σ.I 25 n = nI b := h25
    have ea : (nI a).toNatClampNeg = a := nI_clamp (by omega)
    refine ⟨fun _ => ⟨vp_in_nI oa (by decide), ?_⟩, fun z => absurd z (by decide)⟩
    rw [ea]
    have rx := hR.1 a oa
    cases hA : A.1 a with
    | none =>
      rw [hA] at rx
      have e1 : hindA A (4, (rc, fc), (a, b, c), e, f) = 1 := by show living (A.1 a) _ = 1; rw [hA]; rfl
      rw [e1] at h
      exact ⟨fun _ => h, fun z => absurd rx z⟩
    | some x =>
      rw [hA] at rx
      have hb := hB a oa x hA
      have hm4 := hb.2
      obtain ⟨x1, x2, x3, x4, x5, x6⟩ := rx
      refine ⟨fun z => absurd (x1.symm.trans z) (by decide), fun _ => ⟨fun _ => ?_, fun z => absurd z (by decide)⟩⟩
      refine rs_51o Γ (by decide) ?_
      · have e1 : hindA A (4, (rc, fc), (a, b, c), e, f) = if b ≤ x.mn then 0 else 6 := by show living (A.1 a) _ = _; rw [hA]; rfl
        rw [e1] at h
        refine ⟨fun z => absurd z (by decide), fun z => absurd z (by decide), fun z => absurd z (by decide), fun z => absurd z (by decide), fun _ => ⟨hin, vp_in_nI oa (by decide), ?_⟩, fun z => absurd z (by decide), fun z => absurd z (by decide), fun z => absurd z (by decide)⟩
        rw [ea, en, x4, h25]
        have q : nI b ≤ nI x.mn ↔ b ≤ x.mn := nI_leI (by omega) (by omega)
        refine ⟨fun y => ?_, fun y => ?_⟩
        · rw [if_pos (q.mp y)] at h; exact h
        · rw [if_neg (fun w => y (q.mpr w))] at h; exact h
  | 5, h21, h25, h1, h2, h3, ho, h =>
    obtain ⟨oa, ob⟩ : a < 80 ∧ b < 8 := ho
    have h25 : σ.I 25 n = nI b := h25
    have ea : (nI a).toNatClampNeg = a := nI_clamp (by omega)
    refine ⟨fun _ => ⟨vp_in_nI oa (by decide), ?_⟩, fun z => absurd z (by decide)⟩
    rw [ea]
    have rx := hR.1 a oa
    cases hA : A.1 a with
    | none =>
      rw [hA] at rx
      have e1 : hindA A (5, (rc, fc), (a, b, c), e, f) = 1 := by show living (A.1 a) _ = 1; rw [hA]; rfl
      rw [e1] at h
      exact ⟨fun _ => h, fun z => absurd rx z⟩
    | some x =>
      rw [hA] at rx
      have hb := hB a oa x hA
      have hm4 := hb.2
      obtain ⟨x1, x2, x3, x4, x5, x6⟩ := rx
      refine ⟨fun z => absurd (x1.symm.trans z) (by decide), fun _ => ⟨fun _ => ?_, fun z => absurd z (by decide)⟩⟩
      refine rs_51o Γ (by decide) ?_
      · have e1 : hindA A (5, (rc, fc), (a, b, c), e, f) = if (x.wn >>> (nI b &&& 31)) &&& 1 = 0 then 0 else 8 := by show living (A.1 a) _ = _; rw [hA]; rfl
        rw [e1] at h
        refine ⟨fun z => absurd z (by decide), fun z => absurd z (by decide), fun z => absurd z (by decide), fun z => absurd z (by decide), fun z => absurd z (by decide), fun _ => ⟨vp_in_nI oa (by decide), hin, ?_⟩, fun z => absurd z (by decide), fun z => absurd z (by decide)⟩
        rw [ea, en, x6, h25]
        refine ⟨fun y => ?_, fun y => ?_⟩
        · rw [if_pos ((bit01 _).resolve_right y)] at h; exact h
        · rw [if_neg (by rw [y]; decide)] at h; exact h
  | 6, h21, h25, h1, h2, h3, ho, h =>
    obtain ⟨oa, ob⟩ : a < 80 ∧ b < 8 := ho
    have h25 : σ.I 25 n = nI b := h25
    have ea : (nI a).toNatClampNeg = a := nI_clamp (by omega)
    refine ⟨fun _ => ⟨vp_in_nI oa (by decide), ?_⟩, fun z => absurd z (by decide)⟩
    rw [ea]
    have rx := hR.1 a oa
    cases hA : A.1 a with
    | none =>
      rw [hA] at rx
      have e1 : hindA A (6, (rc, fc), (a, b, c), e, f) = 1 := by show living (A.1 a) _ = 1; rw [hA]; rfl
      rw [e1] at h
      exact ⟨fun _ => h, fun z => absurd rx z⟩
    | some x =>
      rw [hA] at rx
      have hb := hB a oa x hA
      have hm4 := hb.2
      obtain ⟨x1, x2, x3, x4, x5, x6⟩ := rx
      refine ⟨fun z => absurd (x1.symm.trans z) (by decide), fun _ => ⟨fun _ => ?_, fun z => absurd z (by decide)⟩⟩
      refine rs_51o Γ (by decide) ?_
      · have e1 : hindA A (6, (rc, fc), (a, b, c), e, f) = if (x.wn >>> (nI b &&& 31)) &&& 1 = 0 then 8 else 0 := by show living (A.1 a) _ = _; rw [hA]; rfl
        rw [e1] at h
        refine ⟨fun z => absurd z (by decide), fun z => absurd z (by decide), fun z => absurd z (by decide), fun z => absurd z (by decide), fun z => absurd z (by decide), fun z => absurd z (by decide), fun _ => ⟨vp_in_nI oa (by decide), hin, ?_⟩, fun z => absurd z (by decide)⟩
        rw [ea, en, x6, h25]
        refine ⟨fun y => ?_, fun y => ?_⟩
        · rw [if_neg y] at h; exact h
        · rw [if_pos y] at h; exact h
  | 7, h21, h25, h1, h2, h3, ho, h =>
    obtain ⟨oa, ob1, ob2⟩ : a < 80 ∧ 1 ≤ b ∧ b ≤ 1000000000 := ho
    have h25 : σ.I 25 n = nI b := h25
    have ea : (nI a).toNatClampNeg = a := nI_clamp (by omega)
    refine ⟨fun _ => ⟨vp_in_nI oa (by decide), ?_⟩, fun z => absurd z (by decide)⟩
    rw [ea]
    have rx := hR.1 a oa
    cases hA : A.1 a with
    | none =>
      rw [hA] at rx
      have e1 : hindA A (7, (rc, fc), (a, b, c), e, f) = 1 := by show closed (A.1 a) _ = 1; rw [hA]; rfl
      rw [e1] at h
      exact ⟨fun _ => h, fun z => absurd rx z⟩
    | some x =>
      rw [hA] at rx
      have hb := hB a oa x hA
      have hm4 := hb.2
      obtain ⟨x1, x2, x3, x4, x5, x6⟩ := rx
      refine ⟨fun z => absurd (x1.symm.trans z) (by decide), fun _ => ⟨fun _ => ?_, fun z => absurd z (by decide)⟩⟩
      refine rs_51c Γ oa x6 (by decide) (by decide) (by decide) (by decide) (fun hw => ?_) (fun hw => ?_)
      · have e1 : hindA A (7, (rc, fc), (a, b, c), e, f) = if (nI b).toInt64 < x.ar then 0 else 9 := by show closed (A.1 a) _ = _; rw [hA]; exact if_pos hw
        rw [e1] at h
        refine ⟨fun z => absurd z (by decide), fun z => absurd z (by decide), fun z => absurd z (by decide), fun z => absurd z (by decide), fun z => absurd z (by decide), fun z => absurd z (by decide), fun z => absurd z (by decide), fun _ => ⟨hin, vp_in_nI oa (by decide), ?_⟩⟩
        rw [ea, en, x2, h25]
        refine ⟨fun y => ?_, fun y => ?_⟩
        · rw [if_pos ((lg_cmp_lt _ _).mp y)] at h; exact h
        · rw [if_neg (fun w => y ((lg_cmp_lt _ _).mpr w))] at h; exact h
      · have e1 : hindA A (7, (rc, fc), (a, b, c), e, f) = 2 := by show closed (A.1 a) _ = 2; rw [hA]; exact if_neg hw
        rw [e1] at h
        exact h
  | 8, h21, h25, h1, h2, h3, ho, h =>
    obtain ⟨oa, ob, one⟩ : a < 80 ∧ b < 80 ∧ a ≠ b := ho
    have h25 : σ.I 25 n = nI b := h25
    have ea : (nI a).toNatClampNeg = a := nI_clamp (by omega)
    have eb : (nI b).toNatClampNeg = b := nI_clamp (by omega)
    have h : post (nI (living (A.1 a) (fun x => living (A.1 b) (fun y => if x.wn = 0 ∧ y.wn = 0 then (if eqN x.sh y.sh 8 = true then (if x.mn = y.mn ∧ eqN x.mo y.mo x.mn = true then 0 else 11) else 10) else 2)))) σ := h
    refine ⟨fun _ => ⟨vp_in_nI oa (by decide), ?_⟩, fun z => absurd z (by decide)⟩
    rw [ea, h25, eb]
    have rx := hR.1 a oa
    have ry := hR.1 b ob
    cases hA : A.1 a with
    | none =>
      rw [hA] at rx h
      exact ⟨fun _ => h, fun z => absurd rx z⟩
    | some x =>
      rw [hA] at rx h
      have hbx := hB a oa x hA
      obtain ⟨x1, x2, x3, x4, x5, x6⟩ := rx
      refine ⟨fun z => absurd (x1.symm.trans z) (by decide), fun _ => ⟨fun z => absurd rfl z, fun _ => ⟨hin, vp_in_nI ob (by decide), ?_⟩⟩⟩
      cases hA2 : A.1 b with
      | none =>
        rw [hA2] at ry h
        exact ⟨fun z => absurd ry z, fun _ => h⟩
      | some y =>
        rw [hA2] at ry h
        have hby := hB b ob y hA2
        obtain ⟨y1, y2, y3, y4, y5, y6⟩ := ry
        refine ⟨fun _ => ?_, fun z => absurd (y1.symm.trans z) (by decide)⟩
        have h : post (nI (if x.wn = 0 ∧ y.wn = 0 then (if eqN x.sh y.sh 8 = true then (if x.mn = y.mn ∧ eqN x.mo y.mo x.mn = true then 0 else 11) else 10) else 2)) σ := h
        refine rs_51m Γ hn oa ob h25 x6 y6 (fun w1 w2 => ?_) (fun w => ?_)
        · rw [if_pos ⟨w1, w2⟩] at h
          refine ⟨fun _ => ⟨hin, ?_⟩, fun z => absurd z (by decide), fun z => absurd z (by decide), fun z => absurd z (by decide), fun z => absurd z (by decide), fun z => absurd z (by decide), fun z => absurd z (by decide), fun z => absurd z (by decide)⟩
          rw [en, h25]
          refine ok_sameSh Γ oa ob (fun s hs => ⟨x3 s hs, (hbx.1 s hs).ok (by omega)⟩) (fun s hs => ⟨y3 s hs, (hby.1 s hs).ok (by omega)⟩) ?_
          by_cases hs : eqN x.sh y.sh 8 = true
          · rw [if_pos hs] at h ⊢
            refine ⟨fun _ => ⟨hin, ?_⟩, fun w => absurd w (by decide)⟩
            rw [h25]
            refine ok_sameMo Γ oa ob x4 y4 hbx.2 hby.2 x5 y5 ?_
            by_cases hm : x.mn = y.mn ∧ eqN x.mo y.mo x.mn = true
            · rw [if_pos hm] at h ⊢
              exact ⟨fun _ => h, fun w => absurd w (by decide)⟩
            · rw [if_neg hm] at h ⊢
              exact ⟨fun w => absurd rfl w, fun _ => h⟩
          · rw [if_neg hs] at h ⊢
            exact ⟨fun w => absurd rfl w, fun _ => h⟩
        · rw [if_neg w] at h; exact h
  | _ + 9, h21, h25, h1, h2, h3, ho, h => exact False.elim ho
