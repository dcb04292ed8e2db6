/-! The class's hindrance of a deed -/
theorem ok_hasSh (Γ : Ev) {σ : St} {p q : Nat} (hp : p < 80) (hq : q < 80) {f g : Nat → Nat × Nat} (hf : ∀ s, s < 8 → σ.L (100 + p) s = pkS (f s) ∧ shOK (f s)) (hg : ∀ s, s < 8 → σ.L (100 + q) s = pkS (g s) ∧ shOK (g s)) {post : Int32 → St → Prop} {thr : String → St → Prop} (h : post (if eqN f g 8 = true then 1 else 0) σ) : wp_P_hasSharesOf Γ p q σ post thr := by
  have lp : ∀ (r i : Nat), i + r = 8 → (∀ s, s < i → f s = g s) → wp_P_hasSharesOf_2 Γ post thr (r + 1) p q (nI i) σ := by
    intro r
    induction r with
    | zero =>
      intro i hi hs
      obtain rfl : i = 8 := by omega
      rw [if_pos (eqN_iff.mpr hs)] at h
      exact ⟨hp, hq, ⟨fun _ => h, fun z => absurd (by decide) z⟩⟩
    | succ r ih =>
      intro i hi hs
      have hin : vp_in (nI i) 8 := vp_in_nI (by omega) (by decide)
      refine ⟨hp, hq, ⟨fun z => absurd z (nI_ge (a := i) (b := 8) (by omega) (by decide)), fun _ => ⟨hin, hin, ?_⟩⟩⟩
      obtain ⟨a1, a2⟩ := hf i (by omega)
      obtain ⟨b1, b2⟩ := hg i (by omega)
      rw [nI_clamp (by omega), a1, b1]
      refine ⟨fun z => ?_, fun z => ?_⟩
      · have e := (pkS_inj a2 b2).mp ((lg_cmp_eq _ _).mp z)
        rw [nI_1]
        exact ih (i + 1) (by omega) (fun s hs1 => by rcases Nat.lt_succ_iff_lt_or_eq.mp hs1 with y | rfl; exact hs s y; exact e)
      · have e : ¬ f i = g i := fun y => z ((lg_cmp_eq _ _).mpr (by rw [y]))
        rw [if_neg (fun y => e (eqN_iff.mp y i (by omega)))] at h
        exact h
  exact ⟨hp, hq, 9, lp 8 0 (by omega) (fun s hs => absurd hs (Nat.not_lt_zero _))⟩
theorem ok_hasMo (Γ : Ev) {σ : St} {p q : Nat} (hp : p < 80) (hq : q < 80) {f g : Nat → Int32 × Int32} {m k : Nat} (hm : σ.I 2 p = nI m) (hk : σ.I 2 q = nI k) (hm4 : m ≤ 4) (hk4 : k ≤ 4) (hf : ∀ r, r < m → σ.I (100 + p) r = (f r).1 ∧ σ.I (200 + p) r = (f r).2) (hg : ∀ r, r < k → σ.I (100 + q) r = (g r).1 ∧ σ.I (200 + q) r = (g r).2) {post : Int32 → St → Prop} {thr : String → St → Prop} (h : post (if m = k ∧ eqN f g m = true then 1 else 0) σ) : wp_P_hasMortgagesOf Γ p q σ post thr := by
  refine ⟨hp, hq, ?_⟩
  rw [hm, hk]
  have heq : nI m = nI k ↔ m = k := nI_eq (by omega) (by omega)
  refine ⟨fun z => ?_, fun z => ?_⟩
  · obtain rfl := heq.mp z
    have lp : ∀ (r i : Nat), i + r = m → (∀ s, s < i → f s = g s) → wp_P_hasMortgagesOf_15 Γ post thr (r + 1) p q (nI i) σ := by
      intro r
      induction r with
      | zero =>
        intro i hi hs
        obtain rfl : i = m := by omega
        rw [if_pos ⟨rfl, eqN_iff.mpr hs⟩] at h
        refine ⟨hp, hq, ⟨fun _ => h, fun z => absurd ?_ z⟩⟩
        rw [hm]
        exact nI_le (Nat.le_refl _) (by omega)
      | succ r ih =>
        intro i hi hs
        have hin : vp_in (nI i) 4 := vp_in_nI (by omega) (by decide)
        refine ⟨hp, hq, ⟨fun z => absurd z (by rw [hm]; exact nI_ge (by omega) (by omega)), fun _ => ⟨hin, hin, ?_⟩⟩⟩
        obtain ⟨a1, a2⟩ := hf i (by omega)
        obtain ⟨b1, b2⟩ := hg i (by omega)
        rw [nI_clamp (by omega), a1, b1, a2, b2]
        have no : ¬ f i = g i → post 0 σ := fun e => by
          rw [if_neg (fun y => e (eqN_iff.mp y.2 i (by omega)))] at h
          exact h
        refine ⟨fun z => no (fun y => z (by rw [y])), fun z => ⟨hin, hin, fun z2 => ?_, fun z2 => no (fun y => z2 (by rw [y]))⟩⟩
        rw [nI_1]
        exact ih (i + 1) (by omega) (fun s hs1 => by rcases Nat.lt_succ_iff_lt_or_eq.mp hs1 with y | rfl; exact hs s y; exact Prod.ext z z2)
    exact ⟨m + 1, lp m 0 (by omega) (fun s hs => absurd hs (Nat.not_lt_zero _))⟩
  · rw [if_neg (fun y => z (heq.mpr y.1))] at h
    exact h
/-- the class's answer, where the registers are the land's -/
theorem ok_hindC (Γ : Ev) {σ : St} {A : Land} {n k : Nat} {d : Dd} (hR : RC σ A) (hB : LB k A) (hk : k ≤ 900) (hd : dC Γ σ n d) (ho : dOK d) {post : Int32 → St → Prop} {thr : String → St → Prop} (h : post (nI (hindA A d)) σ) : wp_De_hindrance Γ n σ post thr := by
  obtain ⟨kd, ⟨rc, fc⟩, ⟨a, b, c⟩, e, f⟩ := d
  obtain ⟨hn, hK, h6, h7, h8, h10, h11, h12, h13, hL⟩ := hd
  simp only [Dd.k, Dd.a, Dd.b, Dd.c, Dd.e, Dd.f, Dd.rec, Dd.fact] at hn hK h6 h7 h8 h10 h11 h12 h13 hL
  have hK2 : ∀ j, Γ.K n = j → kd = j - 2 := fun j hj => by omega
  have hlive : ∀ p, p < 80 → ∀ (fn : Pd → Nat), (¬ σ.I 1 p = 0 → ∃ x, A.1 p = some x ∧ living (A.1 p) fn = fn x) ∧ (σ.I 1 p = 0 → living (A.1 p) fn = 1) := fun p hp fn => by
    have z := hR.1 p hp
    cases hA : A.1 p with
    | none => rw [hA] at z; exact ⟨fun y => absurd z y, fun _ => rfl⟩
    | some x => rw [hA] at z; exact ⟨fun _ => ⟨x, rfl, rfl⟩, fun y => absurd (z.1.symm.trans y) (by decide)⟩
  refine ⟨fun hj => ?_, fun hj => ?_, fun hj => ?_, fun hj => ?_, fun hj => ?_, fun hj => ?_, fun hj => ?_, fun hj => ?_, fun hj => ?_⟩
  · obtain rfl := hK2 _ hj
    exact ⟨hn, hj, h⟩
  · obtain rfl := hK2 _ hj
    obtain ⟨oa, ob, oc, one, of⟩ : a < 80 ∧ b < 8 ∧ c < 8 ∧ b ≠ c ∧ frOK f := ho
    refine ⟨hn, hj, by rw [h10]; exact vp_in_nI oa (by decide), ?_⟩
    have h12 := h12 (by decide) (by decide)
    have hL := hL rfl
    rw [h10, nI_clamp (by omega)]
    refine ok_closed Γ oa (hR.1 a oa) (fun z => ?_) (fun x z => ?_)
    · have e1 : hindA A (1, (rc, fc), (a, b, c), e, f) = 1 := by show closed (A.1 a) _ = 1; rw [z]; rfl
      rw [e1] at h
      exact ⟨fun y => absurd y (by decide), fun _ => h⟩
    · have hb := hB a oa x z
      have rx := hR.1 a oa
      rw [z] at rx
      obtain ⟨x1, x2, x3, x4, x5, x6⟩ := rx
      by_cases hw : x.wn = 0
      · rw [if_pos hw]
        have e1 : hindA A (1, (rc, fc), (a, b, c), e, f) = if (x.sh b).1 * f.2 < f.1 * (x.sh b).2 then 3 else if (subS (x.sh b) f).2 ≤ 1000000 ∧ (addS (x.sh c) f).2 ≤ 1000000 then 0 else 4 := by
          show closed (A.1 a) _ = _; rw [z]; exact if_pos hw
        rw [e1] at h
        refine ⟨fun _ => ⟨by rw [h11]; exact vp_in_nI ob (by decide), ?_⟩, fun y => absurd rfl y⟩
        rw [h11, nI_clamp (by omega), x3 b ob, hL]
        refine ok_isLess Γ hk (hb.1 b ob) of ?_
        by_cases hl : (x.sh b).1 * f.2 < f.1 * (x.sh b).2
        · rw [if_pos hl] at h ⊢
          exact ⟨fun y => absurd y (by decide), fun _ => h⟩
        · rw [if_neg hl] at h ⊢
          refine ⟨fun _ => ⟨by rw [h11]; exact vp_in_nI ob (by decide), ?_⟩, fun y => absurd rfl y⟩
          rw [h11, nI_clamp (by omega), x3 b ob, hL]
          refine ok_minus Γ hk (hb.1 b ob) of (by omega) ?_
          by_cases hs1 : (subS (x.sh b) f).2 ≤ 1000000
          · have hk0 : shB (k + 1) (subS (x.sh b) f) := sub_B (by omega) ((hb.1 b ob).up (by omega)) of hs1
            rw [if_pos hs1]
            refine ⟨fun y => absurd ((lg_cmp_eq _ _).mp y) (pkS_ne (hk0.ok (by omega))), fun _ => ⟨by rw [h12]; exact vp_in_nI oc (by decide), ?_⟩⟩
            rw [h12, nI_clamp (by omega), x3 c oc, hL]
            refine ok_plus Γ hk (hb.1 c oc) of ?_
            by_cases hs2 : (addS (x.sh c) f).2 ≤ 1000000
            · rw [if_pos ⟨hs1, hs2⟩] at h
              rw [if_pos hs2]
              exact ⟨fun _ => ⟨fun _ => h, fun y => absurd rfl y⟩, fun y => absurd ((lg_cmp_eq _ _).mp y) (pkS_ne ((add_B (hb.1 c oc) of hs2).ok (by omega)))⟩
            · rw [if_neg (fun y => hs2 y.2)] at h
              rw [if_neg hs2]
              exact ⟨fun y => absurd ((lg_cmp_eq _ _).mpr rfl) y, fun _ => ⟨fun y => absurd y (by decide), fun _ => h⟩⟩
          · rw [if_neg (fun y => hs1 y.1)] at h
            rw [if_neg hs1]
            exact ⟨fun _ => ⟨fun y => absurd y (by decide), fun _ => h⟩, fun y => absurd ((lg_cmp_eq _ _).mpr rfl) y⟩
      · rw [if_neg hw]
        have e1 : hindA A (1, (rc, fc), (a, b, c), e, f) = 2 := by show closed (A.1 a) _ = 2; rw [z]; exact if_neg hw
        rw [e1] at h
        exact ⟨fun y => absurd y (by decide), fun _ => h⟩
  · obtain rfl := hK2 _ hj
    obtain ⟨oa, ob, oc⟩ : a < 80 ∧ b < 8 ∧ 1 ≤ c ∧ c ≤ 1000000000 := ho
    refine ⟨hn, hj, by rw [h10]; exact vp_in_nI oa (by decide), ?_⟩
    rw [h10, nI_clamp (by omega)]
    refine ok_closed Γ oa (hR.1 a oa) (fun z => ?_) (fun x z => ?_)
    · have e1 : hindA A (2, (rc, fc), (a, b, c), e, f) = 1 := by show closed (A.1 a) _ = 1; rw [z]; rfl
      rw [e1] at h
      exact ⟨fun y => absurd y (by decide), fun _ => h⟩
    · have hb := hB a oa x z
      have rx := hR.1 a oa
      rw [z] at rx
      obtain ⟨x1, x2, x3, x4, x5, x6⟩ := rx
      by_cases hw : x.wn = 0
      · rw [if_pos hw]
        have e1 : hindA A (2, (rc, fc), (a, b, c), e, f) = if x.mn < 4 then 0 else 5 := by show closed (A.1 a) _ = _; rw [z]; exact if_pos hw
        rw [e1] at h
        refine ⟨fun _ => ?_, fun y => absurd rfl y⟩
        rw [x4]
        have := hb.2
        by_cases h4 : x.mn < 4
        · rw [if_pos h4] at h
          exact ⟨fun _ => h, fun y => absurd (nI_lt (b := 4) h4 (by decide)) y⟩
        · rw [if_neg h4] at h
          exact ⟨fun y => absurd y (nI_nlt (b := 4) (by omega) (by omega)), fun _ => h⟩
      · rw [if_neg hw]
        have e1 : hindA A (2, (rc, fc), (a, b, c), e, f) = 2 := by show closed (A.1 a) _ = 2; rw [z]; exact if_neg hw
        rw [e1] at h
        exact ⟨fun y => absurd y (by decide), fun _ => h⟩
  · obtain rfl := hK2 _ hj
    obtain ⟨oa, ob1, ob2, oc1, oc2, one⟩ : a < 80 ∧ 1 ≤ b ∧ b ≤ 4 ∧ 1 ≤ c ∧ c ≤ 4 ∧ b ≠ c := ho
    refine ⟨hn, hj, by rw [h10]; exact vp_in_nI oa (by decide), ?_⟩
    have h12 := h12 (by decide) (by decide)
    have h13 := h13 rfl
    rw [h10, nI_clamp (by omega)]
    refine ok_closed Γ oa (hR.1 a oa) (fun z => ?_) (fun x z => ?_)
    · have e1 : hindA A (3, (rc, fc), (a, b, c), e, f) = 1 := by show closed (A.1 a) _ = 1; rw [z]; rfl
      rw [e1] at h
      exact ⟨fun y => absurd y (by decide), fun _ => h⟩
    · have hb := hB a oa x z
      have rx := hR.1 a oa
      rw [z] at rx
      obtain ⟨x1, x2, x3, x4, x5, x6⟩ := rx
      have hm4 := hb.2
      by_cases hw : x.wn = 0
      · rw [if_pos hw]
        have e1 : hindA A (3, (rc, fc), (a, b, c), e, f) = if b ≤ x.mn ∧ c ≤ x.mn then (if needA x.mo b c &&& (e ^^^ -1) = 0 then 0 else 7) else 6 := by show closed (A.1 a) _ = _; rw [z]; exact if_pos hw
        rw [e1] at h
        refine ⟨fun _ => ?_, fun y => absurd rfl y⟩
        rw [h11, h12, x4]
        have hmax : (if nI b < nI c then nI c else nI b) = nI (max b c) := by
          by_cases hl : b < c
          · rw [if_pos (nI_lt hl (by omega)), Nat.max_eq_right (by omega)]
          · rw [if_neg (nI_nlt (by omega) (by omega)), Nat.max_eq_left (by omega)]
        rw [hmax]
        have hle : nI (max b c) ≤ nI x.mn ↔ b ≤ x.mn ∧ c ≤ x.mn := by
          rw [nI_leI (by omega) (by omega)]; omega
        have cred : ∀ r, r < x.mn → σ.I (100 + a) r = (x.mo r).1 := fun r hr => (x5 r hr).1
        refine ⟨fun y => ?_, fun y => ?_⟩
        · have hbc := hle.mp y
          rw [if_pos hbc] at h
          have fin : (if needA x.mo b c &&& (e ^^^ -1) = 0 then (0 : Nat) else 7) = if needA x.mo b c &&& (e ^^^ -1) = 0 then 0 else 7 := rfl
          have last : (((needA x.mo b c) &&& ((St.I (σ) 13 n) ^^^ (-1 : Int32))) = 0 → post (0 : Int32) (σ)) ∧ (¬ ((needA x.mo b c) &&& ((St.I (σ) 13 n) ^^^ (-1 : Int32))) = 0 → post (7 : Int32) (σ)) := by
            rw [h13]
            refine ⟨fun q => ?_, fun q => ?_⟩
            · rw [if_pos q] at h; exact h
            · rw [if_neg q] at h; exact h
          refine ⟨hn, hj, oa, ok_credOf Γ oa cred hm4 ob1 (n := 1) (by omega) h11 (by rw [h11]; exact (nI_pred b).symm) ?_⟩
          rw [h11, h12]
          refine ⟨fun q => ?_, fun q => ?_⟩
          · have hcb : c ≤ b := (nI_leI (by omega) (by omega)).mp q
            refine ok_credOf Γ oa cred hm4 oc1 (n := b - c) (by omega) rfl (by rw [show c + (b - c) = b by omega]) ?_
            rw [show bitsA x.mo c (b - c) &&& (bitsA x.mo b 1 ^^^ -1) = needA x.mo b c from (if_neg (by omega)).symm]
            exact last
          · have hcb : b < c := by
              by_cases w : b < c
              · exact w
              · exact absurd ((nI_leI (by omega) (by omega)).mpr (by omega)) q
            refine ok_credOf Γ oa cred hm4 (lo := b + 1) (by omega) (n := c - b) (by omega) (by rw [nI_1]) (by rw [show b + 1 + (c - b) = c + 1 by omega]; exact (nI_pred c).symm) ?_
            rw [show bitsA x.mo b 1 &&& (bitsA x.mo (b + 1) (c - b) ^^^ -1) = needA x.mo b c from (if_pos hcb).symm]
            exact last
        · rw [if_neg (fun w => y (hle.mpr w))] at h
          exact h
      · rw [if_neg hw]
        have e1 : hindA A (3, (rc, fc), (a, b, c), e, f) = 2 := by show closed (A.1 a) _ = 2; rw [z]; exact if_neg hw
        rw [e1] at h
        exact ⟨fun y => absurd y (by decide), fun _ => h⟩
  · obtain rfl := hK2 _ hj
    obtain ⟨oa, ob⟩ : a < 80 ∧ 1 ≤ b ∧ b ≤ 4 := ho
    refine ⟨hn, hj, by rw [h10]; exact vp_in_nI oa (by decide), ?_⟩
    rw [h10, nI_clamp (by omega)]
    refine ⟨fun z => ?_, fun z => ?_⟩
    · obtain ⟨x, hA, hv⟩ := (hlive a oa (fun x => if b ≤ x.mn then 0 else 6)).1 z
      have e1 : hindA A (4, (rc, fc), (a, b, c), e, f) = if b ≤ x.mn then 0 else 6 := hv
      rw [e1] at h
      have hb := hB a oa x hA
      have rx := hR.1 a oa
      rw [hA] at rx
      obtain ⟨x1, x2, x3, x4, x5, x6⟩ := rx
      have hm4 := hb.2
      rw [h11, x4]
      have hle : nI b ≤ nI x.mn ↔ b ≤ x.mn := nI_leI (by omega) (by omega)
      refine ⟨fun y => ?_, fun y => ?_⟩
      · rw [if_pos (hle.mp y)] at h; exact h
      · rw [if_neg (fun w => y (hle.mpr w))] at h; exact h
    · have e1 : hindA A (4, (rc, fc), (a, b, c), e, f) = 1 := (hlive a oa (fun x => if b ≤ x.mn then 0 else 6)).2 z
      rw [e1] at h
      exact h
  · obtain rfl := hK2 _ hj
    obtain ⟨oa, ob⟩ : a < 80 ∧ b < 8 := ho
    refine ⟨hn, hj, by rw [h10]; exact vp_in_nI oa (by decide), ?_⟩
    rw [h10, nI_clamp (by omega)]
    refine ⟨fun z => ?_, fun z => ?_⟩
    · obtain ⟨x, hA, hv⟩ := (hlive a oa (fun x => if (x.wn >>> (nI b &&& 31)) &&& 1 = 0 then 0 else 8)).1 z
      have e1 : hindA A (5, (rc, fc), (a, b, c), e, f) = if (x.wn >>> (nI b &&& 31)) &&& 1 = 0 then 0 else 8 := hv
      rw [e1] at h
      have hb := hB a oa x hA
      have rx := hR.1 a oa
      rw [hA] at rx
      obtain ⟨x1, x2, x3, x4, x5, x6⟩ := rx
      have hm4 := hb.2
      refine ⟨oa, ?_⟩
      rw [x6, h11]
      refine ⟨fun y => ?_, fun y => ?_⟩
      · rw [if_pos y] at h; exact ⟨fun _ => h, fun w => absurd rfl w⟩
      · rw [if_neg y] at h; exact ⟨fun w => absurd w (by decide), fun _ => h⟩
    · have e1 : hindA A (5, (rc, fc), (a, b, c), e, f) = 1 := (hlive a oa (fun x => if (x.wn >>> (nI b &&& 31)) &&& 1 = 0 then 0 else 8)).2 z
      rw [e1] at h
      exact h
  · obtain rfl := hK2 _ hj
    obtain ⟨oa, ob⟩ : a < 80 ∧ b < 8 := ho
    refine ⟨hn, hj, by rw [h10]; exact vp_in_nI oa (by decide), ?_⟩
    rw [h10, nI_clamp (by omega)]
    refine ⟨fun z => ?_, fun z => ?_⟩
    · obtain ⟨x, hA, hv⟩ := (hlive a oa (fun x => if (x.wn >>> (nI b &&& 31)) &&& 1 = 0 then 8 else 0)).1 z
      have e1 : hindA A (6, (rc, fc), (a, b, c), e, f) = if (x.wn >>> (nI b &&& 31)) &&& 1 = 0 then 8 else 0 := hv
      rw [e1] at h
      have hb := hB a oa x hA
      have rx := hR.1 a oa
      rw [hA] at rx
      obtain ⟨x1, x2, x3, x4, x5, x6⟩ := rx
      have hm4 := hb.2
      refine ⟨oa, ?_⟩
      rw [x6, h11]
      refine ⟨fun y => ?_, fun y => ?_⟩
      · rw [if_pos y] at h; exact ⟨fun _ => h, fun w => absurd rfl w⟩
      · rw [if_neg y] at h; exact ⟨fun w => absurd w (by decide), fun _ => h⟩
    · have e1 : hindA A (6, (rc, fc), (a, b, c), e, f) = 1 := (hlive a oa (fun x => if (x.wn >>> (nI b &&& 31)) &&& 1 = 0 then 8 else 0)).2 z
      rw [e1] at h
      exact h
  · obtain rfl := hK2 _ hj
    obtain ⟨oa, ob⟩ : a < 80 ∧ 1 ≤ b ∧ b ≤ 1000000000 := ho
    refine ⟨hn, hj, by rw [h10]; exact vp_in_nI oa (by decide), ?_⟩
    rw [h10, nI_clamp (by omega)]
    refine ok_closed Γ oa (hR.1 a oa) (fun z => ?_) (fun x z => ?_)
    · have e1 : hindA A (7, (rc, fc), (a, b, c), e, f) = 1 := by show closed (A.1 a) _ = 1; rw [z]; rfl
      rw [e1] at h
      exact ⟨fun y => absurd y (by decide), fun _ => h⟩
    · have rx := hR.1 a oa
      rw [z] at rx
      obtain ⟨x1, x2, x3, x4, x5, x6⟩ := rx
      by_cases hw : x.wn = 0
      · rw [if_pos hw]
        have e1 : hindA A (7, (rc, fc), (a, b, c), e, f) = if (nI b).toInt64 < x.ar then 0 else 9 := by show closed (A.1 a) _ = _; rw [z]; exact if_pos hw
        rw [e1] at h
        refine ⟨fun _ => ?_, fun y => absurd rfl y⟩
        rw [h11, x2]
        refine ⟨fun y => ?_, fun y => ?_⟩
        · rw [if_pos ((lg_cmp_lt _ _).mp y)] at h; exact h
        · rw [if_neg (fun w => y ((lg_cmp_lt _ _).mpr w))] at h; exact h
      · rw [if_neg hw]
        have e1 : hindA A (7, (rc, fc), (a, b, c), e, f) = 2 := by show closed (A.1 a) _ = 2; rw [z]; exact if_neg hw
        rw [e1] at h
        exact ⟨fun y => absurd y (by decide), fun _ => h⟩
  · obtain rfl := hK2 _ hj
    obtain ⟨oa, ob, one⟩ : a < 80 ∧ b < 80 ∧ a ≠ b := ho
    refine ⟨hn, hj, by rw [h10]; exact vp_in_nI oa (by decide), by rw [h11]; exact vp_in_nI ob (by decide), ?_⟩
    rw [h10, h11, nI_clamp (by omega), nI_clamp (by omega)]
    have h : post (nI (living (A.1 a) (fun x => living (A.1 b) (fun y => if x.wn = 0 ∧ y.wn = 0 then (if eqN x.sh y.sh 8 = true then (if x.mn = y.mn ∧ eqN x.mo y.mo x.mn = true then 0 else 11) else 10) else 2)))) σ := h
    have rx := hR.1 a oa
    have ry := hR.1 b ob
    cases hA : A.1 a with
    | none =>
      rw [hA] at rx h
      exact ⟨fun _ => h, fun z => absurd rx z⟩
    | some x =>
      rw [hA] at rx h
      have hbx := hB a oa x hA
      obtain ⟨x1, x2, x3, x4, x5, x6⟩ := rx
      refine ⟨fun z => absurd (x1.symm.trans z) (by decide), fun _ => ?_⟩
      cases hA2 : A.1 b with
      | none =>
        rw [hA2] at ry h
        exact ⟨fun z => absurd ry z, fun _ => h⟩
      | some y =>
        rw [hA2] at ry h
        have hby := hB b ob y hA2
        obtain ⟨y1, y2, y3, y4, y5, y6⟩ := ry
        refine ⟨fun _ => ?_, fun z => absurd (y1.symm.trans z) (by decide)⟩
        have h : post (nI (if x.wn = 0 ∧ y.wn = 0 then (if eqN x.sh y.sh 8 = true then (if x.mn = y.mn ∧ eqN x.mo y.mo x.mn = true then 0 else 11) else 10) else 2)) σ := h
        rw [x6, y6]
        refine ⟨fun z => ?_, fun z => ⟨fun z2 => ?_, fun z2 => ?_⟩⟩
        · rw [if_neg (fun w => z w.1)] at h; exact h
        · rw [if_pos ⟨z, z2⟩] at h
          refine ok_hasSh Γ oa ob (fun s hs => ⟨x3 s hs, (hbx.1 s hs).ok (by omega)⟩) (fun s hs => ⟨y3 s hs, (hby.1 s hs).ok (by omega)⟩) ?_
          by_cases hs : eqN x.sh y.sh 8 = true
          · rw [if_pos hs] at h ⊢
            refine ⟨fun _ => ?_, fun w => absurd w (by decide)⟩
            refine ok_hasMo Γ oa ob x4 y4 hbx.2 hby.2 x5 y5 ?_
            by_cases hm : x.mn = y.mn ∧ eqN x.mo y.mo x.mn = true
            · rw [if_pos hm] at h ⊢
              exact ⟨fun w => absurd w (by decide), fun _ => h⟩
            · rw [if_neg hm] at h ⊢
              exact ⟨fun _ => h, fun w => absurd rfl w⟩
          · rw [if_neg hs] at h ⊢
            exact ⟨fun w => absurd rfl w, fun _ => h⟩
        · rw [if_neg (fun w => z2 w.2)] at h; exact h
