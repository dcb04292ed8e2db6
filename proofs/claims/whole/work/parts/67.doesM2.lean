theorem RM_land {σ : St} {A B : Land} (h : RM σ A) (e : A = B) : RM σ B := e ▸ h
set_option maxHeartbeats 4000000 in
theorem ok_doesM (Γ : Ev) {σ : St} {A : Land} {n k : Nat} {d : Dd} (hn : n < 40) (hR : RM σ A) (hB : LB k A) (hk : k ≤ 900) (hd : dM σ n d) (ho : dOK d) (hf : fresh A n) (h0 : hindA A d = 0) {post : St → Prop} {thr : String → St → Prop} (h : ∀ σ', RM σ' (carryA A n d) → keepM σ σ' → post σ') : wp_M_does Γ (nI n) σ post thr := by
  obtain ⟨kd, ⟨rc, fc⟩, ⟨a, b, c⟩, e, f⟩ := d
  obtain ⟨h21, h22, h23, h24, h25, h1, h2, h3⟩ := hd
  simp only [Dd.k, Dd.a, Dd.b, Dd.c, Dd.e, Dd.f, Dd.rec, Dd.fact] at h21 h22 h23 h24 h25 h1 h2 h3
  have hin : vp_in (nI n) 40 := vp_in_nI hn (by decide)
  have en : (nI n).toNatClampNeg = n := nI_clamp (by omega)
  have e2 : (2 : Int32) * nI n = nI (2 * n) := nI_mulN 2 n
  have c2 : (nI (2 * n)).toNatClampNeg = 2 * n := nI_clamp (by omega)
  have c3 : (nI (2 * n + 1)).toNatClampNeg = 2 * n + 1 := nI_clamp (by omega)
  have v2 : vp_in (nI (2 * n)) 80 := vp_in_nI (by omega) (by decide)
  have v3 : vp_in (nI (2 * n + 1)) 80 := vp_in_nI (by omega) (by decide)
  obtain ⟨f1, f2, f3, f4⟩ := id hf
  refine ⟨hin, hin, ?_⟩
  rw [en, h21, h24]
  match kd, h21, h25, h1, h2, h3, ho, h0, h with
  | 0, h21, h25, h1, h2, h3, ho, h0, h =>
    obtain ⟨oa1, oa2, ob⟩ : 1 ≤ a ∧ a ≤ 1000000000 ∧ b < 8 := ho
    have h25 : σ.I 25 n = nI b := h25
    have h : ∀ σ', RM σ' (setP A (2 * n) (some ((nI a).toInt64, va_up (fun _ => (0, 1)) b (1, 1), 0, fun _ => (0, 0), 0))) → keepM σ σ' → post σ' := h
    refine ⟨fun z => absurd z (by decide), fun _ => ?_, fun z => absurd z (by decide), fun z => absurd z (by decide), fun z => absurd z (by decide), fun z => absurd z (by decide), fun z => absurd z (by decide), fun z => absurd z (by decide), fun z => absurd z (by decide)⟩
    rw [e2]
    refine ok_make0 Γ (by omega) (fun σ1 g r o4 o5 => ⟨hin, ?_⟩)
    rw [show σ1.I 25 n = nI b by rw [g.2.2.2.2.1 25 (by omega)]; exact h25, show (16 : Int32) * nI n + nI b = nI (8 * (2 * n) + b) by rw [show (16 : Int32) = nI 16 from rfl, nI_mulN, nI_add]; congr 1; omega, nI_clamp (by omega)]
    refine ⟨vp_in_nI (by omega) (by decide), ?_⟩
    obtain ⟨r1, r2, r3, r4, r5, r6⟩ := r
    refine h _ (RM_ex1 hR hB (by omega) (g.tr (exM.L4 ob)) ⟨r1, ?_, fun s hs => ?_, r4, r5, r6⟩ ⟨?_, o5⟩) (g.2.2.2.2.tr (keepM.L (by omega)))
    · simp (disch := omega) only [L_aL_n]; exact r2
    · simp (disch := omega) only [L_aL_s, L_aL_n]
      have z := r3 s hs
      by_cases w : s = b
      · subst w
        rw [pk_uLs]
        show _ = lN (va_up (fun _ => (0, 1)) s (1, 1) s).1 ∧ _ = lN (va_up (fun _ => (0, 1)) s (1, 1) s).2
        rw [va_up_self]
        exact ⟨rfl, z.2⟩
      · rw [pk_uLn (by omega)]
        show _ = lN (va_up (fun _ => (0, 1)) b (1, 1) s).1 ∧ _ = lN (va_up (fun _ => (0, 1)) b (1, 1) s).2
        rw [va_up_ne _ _ w]
        exact z
    · have z := (hR.2 (2 * n) (by omega)).1
      rw [f3] at z
      exact o4.trans z.symm
  | 1, h21, h25, h1, h2, h3, ho, h0, h =>
    obtain ⟨oa, ob, oc, one, of⟩ : a < 80 ∧ b < 8 ∧ c < 8 ∧ b ≠ c ∧ frOK f := ho
    have h25 : σ.I 25 n = nI (8 * b + c) := h25
    obtain ⟨x, hA, hw, hv⟩ := closed_0 (show closed (A.1 a) _ = 0 from h0)
    have hca : carryA A n (1, (rc, fc), (a, b, c), e, f) = setP A a (some (x.ar, va_up (va_up x.sh b (subS (x.sh b) f)) c (addS (x.sh c) f), x.mn, x.mo, x.wn)) := onP_s hA
    rw [hca] at h
    have hb := hB a oa x hA
    have hm4 := hb.2
    have rx := hR.1 a oa
    rw [hA] at rx
    obtain ⟨x1, x2, x3, x4, x5, x6⟩ := rx
    have ea : (nI a).toNatClampNeg = a := nI_clamp (by omega)
    have hle : ¬ (x.sh b).1 * f.2 < f.1 * (x.sh b).2 := fun z => by rw [if_pos z] at hv; exact absurd hv (by decide)
    refine ⟨fun z => absurd z (by decide), fun z => absurd z (by decide), fun _ => ?_, fun z => absurd z (by decide), fun z => absurd z (by decide), fun z => absurd z (by decide), fun z => absurd z (by decide), fun z => absurd z (by decide), fun z => absurd z (by decide)⟩
    refine ok_sells Γ hn oa ob oc one of x3 hb.1 hk (by omega) h24 h25 (h1 rfl).1 (h1 rfl).2 (h _ (RM_ex1 hR hB oa ((((exM.L4 ob).tr (exM.L5 ob)).tr (exM.L4 oc)).tr (exM.L5 oc)) ⟨x1, ?_, fun s hs => ?_, x4, x5, x6⟩ ⟨rfl, rfl⟩) ((((keepM.L (by omega)).tr (keepM.L (by omega))).tr (keepM.L (by omega))).tr (keepM.L (by omega))))
    · simp (disch := omega) only [L_aL_n]; exact x2
    · simp (disch := omega) only [L_aL_s, L_aL_n]
      show _ = lN (va_up (va_up x.sh b (subS (x.sh b) f)) c (addS (x.sh c) f) s).1 ∧ _ = lN (va_up (va_up x.sh b (subS (x.sh b) f)) c (addS (x.sh c) f) s).2
      by_cases z : s = c
      · subst z; simp (disch := omega) only [pk_uLs, va_up_self]; exact ⟨trivial, trivial⟩
      · rw [va_up_ne _ _ z]
        by_cases z2 : s = b
        · subst z2; simp (disch := omega) only [pk_uLs, pk_uLn, va_up_self]; exact ⟨trivial, trivial⟩
        · rw [va_up_ne _ _ z2]; simp (disch := omega) only [pk_uLn]; exact x3 s hs
  | 2, h21, h25, h1, h2, h3, ho, h0, h =>
    obtain ⟨oa, ob, oc1, oc2⟩ : a < 80 ∧ b < 8 ∧ 1 ≤ c ∧ c ≤ 1000000000 := ho
    have h25 : σ.I 25 n = nI b := h25
    obtain ⟨x, hA, hw, hv⟩ := closed_0 (show closed (A.1 a) _ = 0 from h0)
    have hca : carryA A n (2, (rc, fc), (a, b, c), e, f) = setP A a (some (x.ar, x.sh, x.mn + 1, va_up x.mo x.mn (nI b, nI c), x.wn)) := onP_s hA
    rw [hca] at h
    have hb := hB a oa x hA
    have hm4 := hb.2
    have rx := hR.1 a oa
    rw [hA] at rx
    obtain ⟨x1, x2, x3, x4, x5, x6⟩ := rx
    have ea : (nI a).toNatClampNeg = a := nI_clamp (by omega)
    have hm : x.mn < 4 := by
      by_cases z : x.mn < 4
      · exact z
      · rw [if_neg z] at hv; exact absurd hv (by decide)
    have va := vp_in_nI oa (show 80 < 2 ^ 31 by decide)
    have iv : vp_in (nI (4 * a + x.mn)) 320 := vp_in_nI (by omega) (by decide)
    have em : (nI (4 * a + x.mn)).toNatClampNeg = 4 * a + x.mn := nI_clamp (by omega)
    refine ⟨fun z => absurd z (by decide), fun z => absurd z (by decide), fun z => absurd z (by decide), fun _ => ?_, fun z => absurd z (by decide), fun z => absurd z (by decide), fun z => absurd z (by decide), fun z => absurd z (by decide), fun z => absurd z (by decide)⟩
    simp (disch := omega) only [ea, x4, i4, em, h25, I_aI_n, h2 rfl]
    refine ⟨va, hin, iv, va, hin, iv, va, va, ?_⟩
    rw [nI_1]
    refine h _ (RM_ex1 hR hB oa (((exM.I31 hm).tr (exM.I32 hm)).tr (exM.I (by omega) (by omega))) ⟨?_, x2, x3, ?_, fun r hr => ?_, ?_⟩ ⟨?_, ?_⟩) (((keepM.I (by omega)).tr (keepM.I (by omega))).tr (keepM.I (by omega)))
    all_goals simp (disch := omega) only [I_aI_s, I_aI_n, pk_us]
    · exact x1
    · have hr : r < x.mn + 1 := hr
      show _ = (va_up x.mo x.mn (nI b, nI c) r).1 ∧ _ = (va_up x.mo x.mn (nI b, nI c) r).2
      by_cases w : r = x.mn
      · subst w; rw [pk_us, pk_us, va_up_self]; exact ⟨rfl, rfl⟩
      · rw [pk_un (by omega), pk_un (by omega), va_up_ne _ _ w]; exact x5 r (by omega)
    · exact x6
  | 3, h21, h25, h1, h2, h3, ho, h0, h =>
    obtain ⟨oa, ob1, ob2, oc1, oc2, one⟩ : a < 80 ∧ 1 ≤ b ∧ b ≤ 4 ∧ 1 ≤ c ∧ c ≤ 4 ∧ b ≠ c := ho
    have h25 : σ.I 25 n = nI b := h25
    obtain ⟨x, hA, hw, hv⟩ := closed_0 (show closed (A.1 a) _ = 0 from h0)
    have hca : carryA A n (3, (rc, fc), (a, b, c), e, f) = setP A a (some (x.ar, x.sh, x.mn, fun i => x.mo (cyc (b - 1) (c - 1) i), x.wn)) := onP_s hA
    rw [hca] at h
    have hb := hB a oa x hA
    have hm4 := hb.2
    have rx := hR.1 a oa
    rw [hA] at rx
    obtain ⟨x1, x2, x3, x4, x5, x6⟩ := rx
    have ea : (nI a).toNatClampNeg = a := nI_clamp (by omega)
    have hm : b ≤ x.mn ∧ c ≤ x.mn := by
      by_cases z : b ≤ x.mn ∧ c ≤ x.mn
      · exact z
      · have hv : (if b ≤ x.mn ∧ c ≤ x.mn then (if needA x.mo b c &&& (e ^^^ -1) = 0 then 0 else 7) else 6) = 0 := hv
        rw [if_neg z] at hv; exact absurd hv (by decide)
    refine ⟨fun z => absurd z (by decide), fun z => absurd z (by decide), fun z => absurd z (by decide), fun z => absurd z (by decide), fun _ => ⟨hin, hin, ?_⟩, fun z => absurd z (by decide), fun z => absurd z (by decide), fun z => absurd z (by decide), fun z => absurd z (by decide)⟩
    rw [h25, (h3 rfl).1, nI_m1 ob1, nI_m1 oc1]
    refine ok_carry Γ oa hm4 (by omega) (by omega) x5 (fun σ' hs => h σ' ?_ hs.1.2.2.2.2)
    obtain ⟨g, s1, s2, s3⟩ := hs
    exact RM_ex1 hR hB oa g ⟨by rw [s2 29 (by omega)]; exact x1, by rw [s3]; exact x2, fun s hs => by rw [s3]; exact x3 s hs, by rw [s2 30 (by omega)]; exact x4, s1, by rw [s2 33 (by omega)]; exact x6⟩ ⟨by rw [s2 34 (by omega)], by rw [s2 35 (by omega)]⟩
  | 4, h21, h25, h1, h2, h3, ho, h0, h =>
    obtain ⟨oa, ob1, ob2⟩ : a < 80 ∧ 1 ≤ b ∧ b ≤ 4 := ho
    have h25 : σ.I 25 n = nI b := h25
    obtain ⟨x, hA, hv⟩ := living_0 (show living (A.1 a) _ = 0 from h0)
    have hca : carryA A n (4, (rc, fc), (a, b, c), e, f) = setP A a (some (x.ar, x.sh, x.mn - 1, fun i => if i < b - 1 then x.mo i else x.mo (i + 1), x.wn)) := onP_s hA
    rw [hca] at h
    have hb := hB a oa x hA
    have hm4 := hb.2
    have rx := hR.1 a oa
    rw [hA] at rx
    obtain ⟨x1, x2, x3, x4, x5, x6⟩ := rx
    have ea : (nI a).toNatClampNeg = a := nI_clamp (by omega)
    have hm : b ≤ x.mn := by
      by_cases z : b ≤ x.mn
      · exact z
      · rw [if_neg z] at hv; exact absurd hv (by decide)
    have va := vp_in_nI oa (show 80 < 2 ^ 31 by decide)
    refine ⟨fun z => absurd z (by decide), fun z => absurd z (by decide), fun z => absurd z (by decide), fun z => absurd z (by decide), fun z => absurd z (by decide), fun _ => ⟨hin, vp_in_nI oa (by decide), ?_⟩, fun z => absurd z (by decide), fun z => absurd z (by decide), fun z => absurd z (by decide)⟩
    rw [ea, h25, x4, nI_m1 ob1, nI_m1 (by omega)]
    refine ok_carry Γ oa hm4 (by omega) (by omega) x5 (fun σ1 hs => ⟨va, va, ?_⟩)
    obtain ⟨g, s1, s2, s3⟩ := hs
    rw [s2 30 (by omega), x4, nI_m1 (by omega)]
    refine h _ (RM_ex1 hR hB oa (g.tr (exM.I (by omega) (by omega))) ⟨?_, by rw [L_aI, s3]; exact x2, fun s hs => by rw [L_aI, s3]; exact x3 s hs, ?_, fun r hr => ?_, ?_⟩ ⟨?_, ?_⟩) (g.2.2.2.2.tr (keepM.I (by omega)))
    all_goals simp (disch := omega) only [I_aI_s, I_aI_n, pk_us]
    · rw [s2 29 (by omega)]; exact x1
    · have hr : r < x.mn - 1 := hr
      have z : σ1.I 31 (4 * a + r) = (x.mo (cyc (b - 1) (x.mn - 1) r)).1 ∧ σ1.I 32 (4 * a + r) = (x.mo (cyc (b - 1) (x.mn - 1) r)).2 := s1 r (by omega)
      show _ = (if r < b - 1 then x.mo r else x.mo (r + 1)).1 ∧ _ = (if r < b - 1 then x.mo r else x.mo (r + 1)).2
      have ec : cyc (b - 1) (x.mn - 1) r = if r < b - 1 then r else r + 1 := by
        unfold cyc
        repeat' split
        all_goals omega
      rw [ec] at z
      by_cases w : r < b - 1
      · rw [if_pos w] at z ⊢; exact z
      · rw [if_neg w] at z ⊢; exact z
    · rw [s2 33 (by omega)]; exact x6
    · rw [s2 34 (by omega)]
    · rw [s2 35 (by omega)]
  | 5, h21, h25, h1, h2, h3, ho, h0, h =>
    obtain ⟨oa, ob⟩ : a < 80 ∧ b < 8 := ho
    have h25 : σ.I 25 n = nI b := h25
    obtain ⟨x, hA, hv⟩ := living_0 (show living (A.1 a) _ = 0 from h0)
    have hca : carryA A n (5, (rc, fc), (a, b, c), e, f) = setP A a (some (x.ar, x.sh, x.mn, x.mo, x.wn ^^^ ((1 : Int32) <<< (nI b &&& 31)))) := onP_s hA
    rw [hca] at h
    have hb := hB a oa x hA
    have hm4 := hb.2
    have rx := hR.1 a oa
    rw [hA] at rx
    obtain ⟨x1, x2, x3, x4, x5, x6⟩ := rx
    have ea : (nI a).toNatClampNeg = a := nI_clamp (by omega)
    have va := vp_in_nI oa (show 80 < 2 ^ 31 by decide)
    refine ⟨fun z => absurd z (by decide), fun z => absurd z (by decide), fun z => absurd z (by decide), fun z => absurd z (by decide), fun z => absurd z (by decide), fun z => absurd z (by decide), fun _ => ⟨va, hin, va, ?_⟩, fun z => absurd z (by decide), fun z => absurd z (by decide)⟩
    rw [ea, x6, h25]
    refine h _ (RM_ex1 hR hB oa (exM.I (by omega) (by omega)) ⟨?_, x2, x3, ?_, fun r hr => ?_, ?_⟩ ⟨?_, ?_⟩) (keepM.I (by omega))
    all_goals simp (disch := omega) only [I_aI_s, I_aI_n, pk_us]
    · exact x1
    · exact x4
    · exact x5 r hr
  | 6, h21, h25, h1, h2, h3, ho, h0, h =>
    obtain ⟨oa, ob⟩ : a < 80 ∧ b < 8 := ho
    have h25 : σ.I 25 n = nI b := h25
    obtain ⟨x, hA, hv⟩ := living_0 (show living (A.1 a) _ = 0 from h0)
    have hca : carryA A n (6, (rc, fc), (a, b, c), e, f) = setP A a (some (x.ar, x.sh, x.mn, x.mo, x.wn ^^^ ((1 : Int32) <<< (nI b &&& 31)))) := onP_s hA
    rw [hca] at h
    have hb := hB a oa x hA
    have hm4 := hb.2
    have rx := hR.1 a oa
    rw [hA] at rx
    obtain ⟨x1, x2, x3, x4, x5, x6⟩ := rx
    have ea : (nI a).toNatClampNeg = a := nI_clamp (by omega)
    have va := vp_in_nI oa (show 80 < 2 ^ 31 by decide)
    refine ⟨fun z => absurd z (by decide), fun z => absurd z (by decide), fun z => absurd z (by decide), fun z => absurd z (by decide), fun z => absurd z (by decide), fun z => absurd z (by decide), fun z => absurd z (by decide), fun _ => ⟨va, hin, va, ?_⟩, fun z => absurd z (by decide)⟩
    rw [ea, x6, h25]
    refine h _ (RM_ex1 hR hB oa (exM.I (by omega) (by omega)) ⟨?_, x2, x3, ?_, fun r hr => ?_, ?_⟩ ⟨?_, ?_⟩) (keepM.I (by omega))
    all_goals simp (disch := omega) only [I_aI_s, I_aI_n, pk_us]
    · exact x1
    · exact x4
    · exact x5 r hr
  | 7, h21, h25, h1, h2, h3, ho, h0, h =>
    obtain ⟨oa, ob1, ob2⟩ : a < 80 ∧ 1 ≤ b ∧ b ≤ 1000000000 := ho
    have h25 : σ.I 25 n = nI b := h25
    obtain ⟨x, hA, hw, hv⟩ := closed_0 (show closed (A.1 a) _ = 0 from h0)
    have hca : carryA A n (7, (rc, fc), (a, b, c), e, f) = setO (setP (setO (setP (setP A a none) (2 * n) (some ((nI b).toInt64, x.sh, x.mn, x.mo, 0))) (2 * n) (nI a, -1)) (2 * n + 1) (some (x.ar - (nI b).toInt64, x.sh, x.mn, x.mo, 0))) (2 * n + 1) (nI a, -1) := onP_s hA
    rw [hca] at h
    have hb := hB a oa x hA
    have hm4 := hb.2
    have rx := hR.1 a oa
    rw [hA] at rx
    obtain ⟨x1, x2, x3, x4, x5, x6⟩ := rx
    have ea : (nI a).toNatClampNeg = a := nI_clamp (by omega)
    have va := vp_in_nI oa (show 80 < 2 ^ 31 by decide)
    have na : a ≠ 2 * n := fun z => by rw [z, f1] at hA; cases hA
    have na1 : a ≠ 2 * n + 1 := fun z => by rw [z, f2] at hA; cases hA
    have hd0 : mD σ a x := ⟨x2, x3, x4, x5, x6⟩
    refine ⟨fun z => absurd z (by decide), fun z => absurd z (by decide), fun z => absurd z (by decide), fun z => absurd z (by decide), fun z => absurd z (by decide), fun z => absurd z (by decide), fun z => absurd z (by decide), fun z => absurd z (by decide), fun _ => ⟨hin, ?_⟩⟩
    rw [e2, nI_1, h25]
    refine ok_makeL Γ (by omega) oa na hd0 hm4 (fun σ1 g1 r1 o4 o5 => ⟨va, hin, ?_⟩)
    have hR1 := RM_ex (o := (nI a, -1)) hR hB g1 r1 ⟨o4, o5.trans (by have z := (hR.2 (2 * n) (by omega)).2; rw [f3] at z; exact z)⟩
    have hB1 : LB k (setO (setP A (2 * n) (some ((nI b).toInt64, x.sh, x.mn, x.mo, 0))) (2 * n) (nI a, -1)) := LB_setO (LB_setP hB (fun y hy => by cases hy; exact hb))
    have hd1 := hd0.ex hm4 g1 na
    rw [ea, hd1.1, show σ1.I 25 n = nI b by rw [g1.2.2.2.2.1 25 (by omega)]; exact h25]
    refine ok_makeL Γ (by omega) oa na1 hd1 hm4 (fun σ2 g2 r2 p4 p5 => ⟨va, ?_⟩)
    have hR2 := RM_ex (o := (nI a, -1)) hR1 hB1 g2 r2 ⟨p4, p5.trans (by have z := (hR1.2 (2 * n + 1) (by omega)).2; rw [setO_n (by omega), setP_o, f4] at z; exact z)⟩
    have hB2 : LB k (setO (setP (setO (setP A (2 * n) (some ((nI b).toInt64, x.sh, x.mn, x.mo, 0))) (2 * n) (nI a, -1)) (2 * n + 1) (some (x.ar - (nI b).toInt64, x.sh, x.mn, x.mo, 0))) (2 * n + 1) (nI a, -1)) := LB_setO (LB_setP hB1 (fun y hy => by cases hy; exact hb))
    have hR3 : RM (St.sI σ2 29 a 0) _ := RM_ex1 (P := none) hR2 hB2 oa (exM.I (by omega) (by omega)) (by show St.I (St.sI σ2 29 a 0) 29 a = 0; simp (disch := omega) only [I_aI_s, pk_us]) ⟨by simp (disch := omega) only [I_aI_n], by simp (disch := omega) only [I_aI_n]⟩
    refine h _ ?_ ((g1.2.2.2.2.tr g2.2.2.2.2).tr (keepM.I (by omega)))
    refine RM_land hR3 (land_ext (fun p => ?_) (fun p => rfl))
    show va_up (va_up (va_up A.1 (2 * n) _) (2 * n + 1) _) a none p = va_up (va_up (va_up A.1 a none) (2 * n) _) (2 * n + 1) _ p
    simp only [va_up]
    repeat' split
    all_goals first
      | rfl
      | (exfalso; omega)
  | 8, h21, h25, h1, h2, h3, ho, h0, h =>
    obtain ⟨oa, ob, one⟩ : a < 80 ∧ b < 80 ∧ a ≠ b := ho
    have h25 : σ.I 25 n = nI b := h25
    obtain ⟨x, hA, hv⟩ := living_0 (show living (A.1 a) _ = 0 from h0)
    obtain ⟨y, hA2, hv⟩ := living_0 hv
    have hca : carryA A n (8, (rc, fc), (a, b, c), e, f) = setO (setP (setP (setP A a none) b none) (2 * n) (some (x.ar + y.ar, x.sh, x.mn, x.mo, 0))) (2 * n) (nI a, nI b) := (onP_s hA).trans (onP_s hA2)
    rw [hca] at h
    have hb := hB a oa x hA
    have hm4 := hb.2
    have rx := hR.1 a oa
    rw [hA] at rx
    obtain ⟨x1, x2, x3, x4, x5, x6⟩ := rx
    have ry := hR.1 b ob
    rw [hA2] at ry
    have ea : (nI a).toNatClampNeg = a := nI_clamp (by omega)
    have eb : (nI b).toNatClampNeg = b := nI_clamp (by omega)
    have va := vp_in_nI oa (show 80 < 2 ^ 31 by decide)
    have vb := vp_in_nI ob (show 80 < 2 ^ 31 by decide)
    have na : a ≠ 2 * n := fun z => by rw [z, f1] at hA; cases hA
    have nb : b ≠ 2 * n := fun z => by rw [z, f1] at hA2; cases hA2
    have hd0 : mD σ a x := ⟨x2, x3, x4, x5, x6⟩
    refine ⟨fun _ => ?_, fun z => absurd z (by decide), fun z => absurd z (by decide), fun z => absurd z (by decide), fun z => absurd z (by decide), fun z => absurd z (by decide), fun z => absurd z (by decide), fun z => absurd z (by decide), fun z => absurd z (by decide)⟩
    rw [h25, ea, eb, e2, x2, ry.2.1]
    refine ⟨va, hin, vb, ok_makeL Γ (by omega) oa na hd0 hm4 (fun σ1 g1 r1 o4 o5 => ?_)⟩
    rw [c2, show σ1.I 25 n = nI b by rw [g1.2.2.2.2.1 25 (by omega)]; exact h25]
    have k2 : keepM σ (St.sI (St.sI σ1 35 (2 * n) (nI b)) 29 a 0) := (g1.2.2.2.2.tr (keepM.I (by omega))).tr (keepM.I (by omega))
    rw [show St.I (St.sI (St.sI σ1 35 (2 * n) (nI b)) 29 a 0) 25 n = nI b by rw [k2.1 25 (by omega)]; exact h25, eb]
    refine ⟨hin, v2, va, hin, vb, ?_⟩
    have g2 : exM (2 * n) σ (St.sI σ1 35 (2 * n) (nI b)) := g1.tr (exM.I (by omega) (by omega))
    have hR1 : RM (St.sI σ1 35 (2 * n) (nI b)) _ := RM_ex (P := some (x.ar + y.ar, x.sh, x.mn, x.mo, 0)) (o := (nI a, nI b)) hR hB g2 (by
      obtain ⟨r1, r2, r3, r4, r5, r6⟩ := r1
      refine ⟨?_, r2, r3, ?_, fun r hr => ?_, ?_⟩
      all_goals simp (disch := omega) only [I_aI_n]
      · exact r1
      · exact r4
      · exact r5 r hr
      · exact r6) ⟨by simp (disch := omega) only [I_aI_n]; exact o4, by simp (disch := omega) only [I_aI_s, pk_us]⟩
    have hB1 : LB k (setO (setP A (2 * n) (some (x.ar + y.ar, x.sh, x.mn, x.mo, 0))) (2 * n) (nI a, nI b)) := LB_setO (LB_setP hB (fun y hy => by cases hy; exact hb))
    have hR2 : RM (St.sI (St.sI σ1 35 (2 * n) (nI b)) 29 a 0) _ := RM_ex1 (P := none) hR1 hB1 oa (exM.I (by omega) (by omega)) (by show St.I (St.sI (St.sI σ1 35 (2 * n) (nI b)) 29 a 0) 29 a = 0; simp (disch := omega) only [I_aI_s, pk_us]) ⟨by simp (disch := omega) only [I_aI_n], by simp (disch := omega) only [I_aI_n]⟩
    have hB2 := LB_setP (p := a) (P := none) hB1 (fun y hy => by cases hy)
    have hR3 : RM (St.sI (St.sI (St.sI σ1 35 (2 * n) (nI b)) 29 a 0) 29 b 0) _ := RM_ex1 (P := none) hR2 hB2 ob (exM.I (by omega) (by omega)) (by show St.I (St.sI (St.sI (St.sI σ1 35 (2 * n) (nI b)) 29 a 0) 29 b 0) 29 b = 0; simp (disch := omega) only [I_aI_s, pk_us]) ⟨by simp (disch := omega) only [I_aI_n], by simp (disch := omega) only [I_aI_n]⟩
    refine h _ ?_ (k2.tr (keepM.I (by omega)))
    refine RM_land hR3 (land_ext (fun p => ?_) (fun p => rfl))
    show va_up (va_up (va_up A.1 (2 * n) _) a none) b none p = va_up (va_up (va_up A.1 a none) b none) (2 * n) _ p
    simp only [va_up]
    repeat' split
    all_goals first
      | rfl
      | (exfalso; omega)
  | _ + 9, h21, h25, h1, h2, h3, ho, h0, h => exact False.elim ho
