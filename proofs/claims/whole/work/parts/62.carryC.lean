/-! What the class's deeds do is what the land's do -/
theorem living_0 {P : Option Pd} {f : Pd → Nat} (h : living P f = 0) : ∃ x, P = some x ∧ f x = 0 := by
  cases P with
  | none => exact absurd (show (1 : Nat) = 0 from h) (by decide)
  | some x => exact ⟨x, rfl, h⟩
theorem closed_0 {P : Option Pd} {f : Pd → Nat} (h : closed P f = 0) : ∃ x, P = some x ∧ x.wn = 0 ∧ f x = 0 := by
  obtain ⟨x, hx, h⟩ := living_0 h
  by_cases hw : x.wn = 0
  · rw [if_pos hw] at h; exact ⟨x, hx, hw, h⟩
  · rw [if_neg hw] at h; exact absurd h (by decide)
theorem onP_s {A : Land} {p : Nat} {x : Pd} {f : Pd → Land} (h : A.1 p = some x) : onP A p f = f x := by unfold onP; rw [h]
theorem rC.D {σ : St} {p : Nat} {x : Pd} (h : rC σ p (some x)) : rD σ p x := h.2
set_option maxHeartbeats 4000000 in
theorem ok_carryC (Γ : Ev) {σ : St} {A : Land} {n k : Nat} {d : Dd} (hn40 : n < 40) (hR : RC σ A) (hB : LB k A) (hk : k ≤ 900) (hd : dC Γ σ n d) (ho : dOK d) (hf : fresh A n) (h0 : hindA A d = 0) {post : St → Prop} {thr : String → St → Prop} (h : ∀ σ', RC σ' (carryA A n d) → keepC σ σ' → post σ') : wp_De_carryOut Γ n σ post thr := by
  obtain ⟨kd, ⟨rc, fc⟩, ⟨a, b, c⟩, e, f⟩ := d
  obtain ⟨hn, hK, h6, h7, h8, h10, h11, h12, h13, hL⟩ := hd
  simp only [Dd.k, Dd.a, Dd.b, Dd.c, Dd.e, Dd.f, Dd.rec, Dd.fact] at hn hK h6 h7 h8 h10 h11 h12 h13 hL
  have hK2 : ∀ j, Γ.K n = j → kd = j - 2 := fun j hj => by omega
  have e2 : (2 : Int32) * nI n = nI (2 * n) := nI_mulN 2 n
  have e3 : (2 : Int32) * nI n + 1 = nI (2 * n + 1) := by rw [e2, nI_1]
  have c2 : (nI (2 * n)).toNatClampNeg = 2 * n := nI_clamp (by omega)
  have c3 : (nI (2 * n + 1)).toNatClampNeg = 2 * n + 1 := nI_clamp (by omega)
  have v2 : vp_in (nI (2 * n)) 80 := vp_in_nI (by omega) (by decide)
  have v3 : vp_in (nI (2 * n + 1)) 80 := vp_in_nI (by omega) (by decide)
  refine ⟨fun hj => ?_, fun hj => ?_, fun hj => ?_, fun hj => ?_, fun hj => ?_, fun hj => ?_, fun hj => ?_, fun hj => ?_, fun hj => ?_⟩
  · obtain rfl := hK2 _ hj
    obtain ⟨oa1, oa2, ob⟩ : 1 ≤ a ∧ a ≤ 1000000000 ∧ b < 8 := ho
    refine ⟨hn, hj, ?_⟩
    rw [h6, e2, c2, h11, h10]
    exact ⟨v2, ok_makeFor Γ (by omega) ob (fun σ' g r o4 o5 => h σ' (RC_ex1 hR (by omega) g r ⟨o4, o5⟩) g.2.2.2.2)⟩
  · obtain rfl := hK2 _ hj
    obtain ⟨oa, ob, oc, one, of⟩ : a < 80 ∧ b < 8 ∧ c < 8 ∧ b ≠ c ∧ frOK f := ho
    obtain ⟨x, hA, hw, hv⟩ := closed_0 (show closed (A.1 a) _ = 0 from h0)
    have hca : carryA A n (1, (rc, fc), (a, b, c), e, f) = setP A a (some (x.ar, va_up (va_up x.sh b (subS (x.sh b) f)) c (addS (x.sh c) f), x.mn, x.mo, x.wn)) := onP_s hA
    rw [hca] at h
    have hb := hB a oa x hA
    have rx := hR.1 a oa
    rw [hA] at rx
    obtain ⟨x1, x2, x3, x4, x5, x6⟩ := rx
    have hle : ¬ (x.sh b).1 * f.2 < f.1 * (x.sh b).2 := fun z => by rw [if_pos z] at hv; exact absurd hv (by decide)
    rw [if_neg hle] at hv
    have hfin : (subS (x.sh b) f).2 ≤ 1000000 ∧ (addS (x.sh c) f).2 ≤ 1000000 := by
      by_cases z : (subS (x.sh b) f).2 ≤ 1000000 ∧ (addS (x.sh c) f).2 ≤ 1000000
      · exact z
      · rw [if_neg z] at hv; exact absurd hv (by decide)
    have h12 := h12 (by decide) (by decide)
    have hL := hL rfl
    have ea : (nI a).toNatClampNeg = a := nI_clamp (by omega)
    have eb : (nI b).toNatClampNeg = b := nI_clamp (by omega)
    have ec : (nI c).toNatClampNeg = c := nI_clamp (by omega)
    unfold wp_Se_carryOut
    simp (disch := omega) only [I_aL, L_aL_s, L_aL_n, h10, h11, ea, eb, x3 b ob, hL]
    refine ⟨hn, hj, vp_in_nI oa (by decide), vp_in_nI ob (by decide), ?_⟩
    refine ok_minus Γ hk (hb.1 b ob) of (by omega) ?_
    rw [if_pos hfin.1]
    simp (disch := omega) only [h12, ec, hL, pk_uLn (show c ≠ b from fun z => one z.symm), x3 c oc]
    refine ⟨vp_in_nI ob (by decide), vp_in_nI oc (by decide), ?_⟩
    refine ok_plus Γ hk (hb.1 c oc) of ?_
    rw [if_pos hfin.2]
    refine ⟨vp_in_nI oc (by decide), h _ ?_ ((keepC.L (by omega)).tr (keepC.L (by omega)))⟩
    refine RC_ex1 hR oa ((exA.L1 oa).tr (exA.L1 oa)) ⟨x1, ?_, fun s hs => ?_, x4, x5, x6⟩ ⟨rfl, rfl⟩
    · simp (disch := omega) only [L_aL_n]; exact x2
    · simp (disch := omega) only [L_aL_s]
      show vp_updL _ c _ s = pkS (va_up (va_up x.sh b _) c _ s)
      by_cases z : s = c
      · subst z; rw [pk_uLs, va_up_self]
      · rw [pk_uLn z, va_up_ne _ _ z]
        by_cases z2 : s = b
        · subst z2; rw [pk_uLs, va_up_self]
        · rw [pk_uLn z2, va_up_ne _ _ z2]; exact x3 s hs
  · obtain rfl := hK2 _ hj
    obtain ⟨oa, ob, oc⟩ : a < 80 ∧ b < 8 ∧ 1 ≤ c ∧ c ≤ 1000000000 := ho
    obtain ⟨x, hA, hw, hv⟩ := closed_0 (show closed (A.1 a) _ = 0 from h0)
    have hca : carryA A n (2, (rc, fc), (a, b, c), e, f) = setP A a (some (x.ar, x.sh, x.mn + 1, va_up x.mo x.mn (nI b, nI c), x.wn)) := onP_s hA
    rw [hca] at h
    have hm : x.mn < 4 := by
      by_cases z : x.mn < 4
      · exact z
      · rw [if_neg z] at hv; exact absurd hv (by decide)
    have rx := hR.1 a oa
    rw [hA] at rx
    obtain ⟨x1, x2, x3, x4, x5, x6⟩ := rx
    have h12 := h12 (by decide) (by decide)
    have ea : (nI a).toNatClampNeg = a := nI_clamp (by omega)
    refine ⟨hn, hj, ?_⟩
    rw [h10, ea, x4, nI_1, h11, h12]
    refine ⟨vp_in_nI oa (by decide), ok_add Γ oa (by omega) x4 x5 (by omega) (by omega) (fun σ' g g2 gm gL gI => h σ' ?_ g.2.2.2.2)⟩
    refine RC_ex1 hR oa g ⟨by rw [gI 1 (by omega) (by omega)]; exact x1, by rw [gL]; exact x2, fun s hs => by rw [gL]; exact x3 s hs, g2, fun r hr => ?_, by rw [gI 3 (by omega) (by omega)]; exact x6⟩ ⟨by rw [gI 4 (by omega) (by omega)], by rw [gI 5 (by omega) (by omega)]⟩
    have hr : r < x.mn + 1 := hr
    have z := gm r hr
    have ei : insA x.mo (x.mn + 1 - 1) (nI b, nI c) r = va_up x.mo x.mn (nI b, nI c) r := by
      unfold insA
      by_cases w : r = x.mn
      · subst w; rw [if_neg (by omega), if_pos (by omega), va_up_self]
      · rw [if_pos (by omega), va_up_ne _ _ w]
    rw [ei] at z
    exact z
  · obtain rfl := hK2 _ hj
    obtain ⟨oa, ob1, ob2, oc1, oc2, one⟩ : a < 80 ∧ 1 ≤ b ∧ b ≤ 4 ∧ 1 ≤ c ∧ c ≤ 4 ∧ b ≠ c := ho
    obtain ⟨x, hA, hw, hv⟩ := closed_0 (show closed (A.1 a) _ = 0 from h0)
    have hca : carryA A n (3, (rc, fc), (a, b, c), e, f) = setP A a (some (x.ar, x.sh, x.mn, fun i => x.mo (cyc (b - 1) (c - 1) i), x.wn)) := onP_s hA
    rw [hca] at h
    have hm : b ≤ x.mn ∧ c ≤ x.mn := by
      by_cases z : b ≤ x.mn ∧ c ≤ x.mn
      · exact z
      · have hv : (if b ≤ x.mn ∧ c ≤ x.mn then (if needA x.mo b c &&& (e ^^^ -1) = 0 then 0 else 7) else 6) = 0 := hv
        rw [if_neg z] at hv; exact absurd hv (by decide)
    have hm4 := (hB a oa x hA).2
    have rx := hR.1 a oa
    rw [hA] at rx
    obtain ⟨x1, x2, x3, x4, x5, x6⟩ := rx
    have h12 := h12 (by decide) (by decide)
    have ea : (nI a).toNatClampNeg = a := nI_clamp (by omega)
    have v4 : vp_in (nI (b - 1)) 4 := vp_in_nI (by omega) (by decide)
    refine ⟨hn, hj, ?_⟩
    rw [h10, ea, h11, nI_m1 ob1, nI_clamp (show b - 1 < 2 ^ 31 by omega), (x5 (b - 1) (by omega)).1, (x5 (b - 1) (by omega)).2]
    refine ⟨vp_in_nI oa (by decide), v4, v4, ok_drop Γ oa hm4 x4 x5 ob1 hm.1 (fun σ1 g g2 gm gL gI => ?_)⟩
    rw [show σ1.I 12 n = nI c by rw [g.2.2.2.2.1 12 (by omega)]; exact h12]
    refine ok_add Γ oa (by omega) g2 gm oc1 (by omega) (fun σ' g' g2' gm' gL' gI' => h σ' ?_ (g.2.2.2.2.tr g'.2.2.2.2))
    refine RC_ex1 hR oa (g.tr g') ⟨by rw [gI' 1 (by omega) (by omega), gI 1 (by omega) (by omega)]; exact x1, by rw [gL', gL]; exact x2, fun s hs => by rw [gL', gL]; exact x3 s hs, by rw [g2', show x.mn - 1 + 1 = x.mn by omega], fun r hr => ?_, by rw [gI' 3 (by omega) (by omega), gI 3 (by omega) (by omega)]; exact x6⟩ ⟨by rw [gI' 4 (by omega) (by omega), gI 4 (by omega) (by omega)], by rw [gI' 5 (by omega) (by omega), gI 5 (by omega) (by omega)]⟩
    have hr : r < x.mn := hr
    have z := gm' r (by omega)
    have ei : insA (fun r => if r < b - 1 then x.mo r else x.mo (r + 1)) (c - 1) ((x.mo (b - 1)).1, (x.mo (b - 1)).2) r = x.mo (cyc (b - 1) (c - 1) r) := by
      unfold insA cyc
      dsimp only
      repeat' split
      all_goals first
        | rfl
        | (exfalso; omega)
        | (congr 1; omega)
    rw [ei] at z
    exact z
  · obtain rfl := hK2 _ hj
    obtain ⟨oa, ob1, ob2⟩ : a < 80 ∧ 1 ≤ b ∧ b ≤ 4 := ho
    obtain ⟨x, hA, hv⟩ := living_0 (show living (A.1 a) _ = 0 from h0)
    have hca : carryA A n (4, (rc, fc), (a, b, c), e, f) = setP A a (some (x.ar, x.sh, x.mn - 1, fun i => if i < b - 1 then x.mo i else x.mo (i + 1), x.wn)) := onP_s hA
    rw [hca] at h
    have hm : b ≤ x.mn := by
      by_cases z : b ≤ x.mn
      · exact z
      · rw [if_neg z] at hv; exact absurd hv (by decide)
    have hm4 := (hB a oa x hA).2
    have rx := hR.1 a oa
    rw [hA] at rx
    obtain ⟨x1, x2, x3, x4, x5, x6⟩ := rx
    have ea : (nI a).toNatClampNeg = a := nI_clamp (by omega)
    refine ⟨hn, hj, ?_⟩
    rw [h10, ea, h11]
    refine ⟨vp_in_nI oa (by decide), ok_drop Γ oa hm4 x4 x5 ob1 hm (fun σ' g g2 gm gL gI => h σ' ?_ g.2.2.2.2)⟩
    exact RC_ex1 hR oa g ⟨by rw [gI 1 (by omega) (by omega)]; exact x1, by rw [gL]; exact x2, fun s hs => by rw [gL]; exact x3 s hs, g2, gm, by rw [gI 3 (by omega) (by omega)]; exact x6⟩ ⟨by rw [gI 4 (by omega) (by omega)], by rw [gI 5 (by omega) (by omega)]⟩
  · obtain rfl := hK2 _ hj
    obtain ⟨oa, ob⟩ : a < 80 ∧ b < 8 := ho
    obtain ⟨x, hA, hv⟩ := living_0 (show living (A.1 a) _ = 0 from h0)
    have hca : carryA A n (5, (rc, fc), (a, b, c), e, f) = setP A a (some (x.ar, x.sh, x.mn, x.mo, x.wn ^^^ ((1 : Int32) <<< (nI b &&& 31)))) := onP_s hA
    rw [hca] at h
    have hbit : (x.wn >>> (nI b &&& 31)) &&& 1 = 0 := by
      by_cases z : (x.wn >>> (nI b &&& 31)) &&& 1 = 0
      · exact z
      · rw [if_neg z] at hv; exact absurd hv (by decide)
    have rx := hR.1 a oa
    rw [hA] at rx
    obtain ⟨x1, x2, x3, x4, x5, x6⟩ := rx
    have ea : (nI a).toNatClampNeg = a := nI_clamp (by omega)
    refine ⟨hn, hj, ?_⟩
    rw [h10, ea, h11, x6, ct_set x.wn (by omega) hbit]
    refine ⟨vp_in_nI oa (by decide), h _ ?_ (keepC.I (by omega))⟩
    refine RC_ex1 hR oa (exA.I (by omega) (by omega)) ⟨?_, x2, x3, ?_, fun r hr => ?_, ?_⟩ ⟨?_, ?_⟩
    all_goals simp (disch := omega) only [I_aI_s, I_aI_n, L_aI, pk_us, pk_un]
    · exact x1
    · exact x4
    · exact x5 r hr
  · obtain rfl := hK2 _ hj
    obtain ⟨oa, ob⟩ : a < 80 ∧ b < 8 := ho
    obtain ⟨x, hA, hv⟩ := living_0 (show living (A.1 a) _ = 0 from h0)
    have hca : carryA A n (6, (rc, fc), (a, b, c), e, f) = setP A a (some (x.ar, x.sh, x.mn, x.mo, x.wn ^^^ ((1 : Int32) <<< (nI b &&& 31)))) := onP_s hA
    rw [hca] at h
    have hbit : ¬ (x.wn >>> (nI b &&& 31)) &&& 1 = 0 := fun z => by rw [if_pos z] at hv; exact absurd hv (by decide)
    have rx := hR.1 a oa
    rw [hA] at rx
    obtain ⟨x1, x2, x3, x4, x5, x6⟩ := rx
    have ea : (nI a).toNatClampNeg = a := nI_clamp (by omega)
    refine ⟨hn, hj, ?_⟩
    rw [h10, ea, h11, x6, ct_clr x.wn (by omega) hbit]
    refine ⟨vp_in_nI oa (by decide), h _ ?_ (keepC.I (by omega))⟩
    refine RC_ex1 hR oa (exA.I (by omega) (by omega)) ⟨?_, x2, x3, ?_, fun r hr => ?_, ?_⟩ ⟨?_, ?_⟩
    all_goals simp (disch := omega) only [I_aI_s, I_aI_n, L_aI, pk_us, pk_un]
    · exact x1
    · exact x4
    · exact x5 r hr
  · obtain rfl := hK2 _ hj
    obtain ⟨oa, ob1, ob2⟩ : a < 80 ∧ 1 ≤ b ∧ b ≤ 1000000000 := ho
    obtain ⟨x, hA, hw, hv⟩ := closed_0 (show closed (A.1 a) _ = 0 from h0)
    have hca : carryA A n (7, (rc, fc), (a, b, c), e, f) = setO (setP (setO (setP (setP A a none) (2 * n) (some ((nI b).toInt64, x.sh, x.mn, x.mo, 0))) (2 * n) (nI a, -1)) (2 * n + 1) (some (x.ar - (nI b).toInt64, x.sh, x.mn, x.mo, 0))) (2 * n + 1) (nI a, -1) := onP_s hA
    rw [hca] at h
    obtain ⟨f1, f2, f3, f4⟩ := hf
    have na : a ≠ 2 * n := fun z => by rw [z, f1] at hA; cases hA
    have na1 : a ≠ 2 * n + 1 := fun z => by rw [z, f2] at hA; cases hA
    have hm4 := (hB a oa x hA).2
    have rx := hR.1 a oa
    rw [hA] at rx
    have ea : (nI a).toNatClampNeg = a := nI_clamp (by omega)
    have g1 : exA a σ (St.sI σ 1 a 0) := exA.I (by omega) (by omega)
    have hR1 : RC (St.sI σ 1 a 0) (setP A a none) := RC_ex1 hR oa g1 (by show St.I (St.sI σ 1 a 0) 1 a = 0; simp (disch := omega) only [I_aI_s, pk_us]) ⟨by simp (disch := omega) only [I_aI_n], by simp (disch := omega) only [I_aI_n]⟩
    have hd1 : rD (St.sI σ 1 a 0) a x := by
      obtain ⟨x1, x2, x3, x4, x5, x6⟩ := rx
      refine ⟨x2, x3, ?_, fun r hr => ?_, ?_⟩
      all_goals simp (disch := omega) only [I_aI_n]
      · exact x4
      · exact x5 r hr
      · exact x6
    unfold wp_Sp_carryOut
    rw [h10, ea, h6, e3, e2, c2, c3]
    refine ⟨hn, hj, vp_in_nI oa (by decide), v2, v3, ?_⟩
    rw [show St.I (St.sI σ 1 a 0) 11 n = nI b by rw [g1.2.2.2.2.1 11 (by omega)]; exact h11]
    refine ok_makeFrom Γ (by omega) oa na hd1 hm4 (fun σ7 g7 r7 o4 o5 => ?_)
    have k7 := g1.2.2.2.2.tr g7.2.2.2.2
    rw [show σ7.I 10 n = nI a by rw [k7.1 10 (by omega)]; exact h10]
    have g8 : exA (2 * n) (St.sI σ 1 a 0) (St.sI σ7 4 (2 * n) (nI a)) := g7.tr (exA.I (by omega) (by omega))
    have hR8 : RC (St.sI σ7 4 (2 * n) (nI a)) (setO (setP (setP A a none) (2 * n) (some ((nI b).toInt64, x.sh, x.mn, x.mo, 0))) (2 * n) (nI a, -1)) := by
      refine RC_ex hR1 g8 (rC_fr (σ := σ7) ?_ rfl rfl ?_ ?_ ?_ ?_ r7) ⟨?_, ?_⟩
      all_goals simp (disch := omega) only [I_aI_s, I_aI_n, pk_us]
      have z := (hR1.2 (2 * n) (by omega)).2
      rw [setP_o, f3] at z
      exact o5.trans z
    have hd8 : rD (St.sI σ7 4 (2 * n) (nI a)) a x := hd1.ex g8 oa na
    have k8 := g1.2.2.2.2.tr g8.2.2.2.2
    rw [hd8.1, show St.I (St.sI σ7 4 (2 * n) (nI a)) 11 n = nI b by rw [k8.1 11 (by omega)]; exact h11]
    refine ok_makeFrom Γ (by omega) oa na1 hd8 hm4 (fun σ9 g9 r9 p4 p5 => ?_)
    have k9 := k8.tr g9.2.2.2.2
    rw [show σ9.I 10 n = nI a by rw [k9.1 10 (by omega)]; exact h10]
    have g10 : exA (2 * n + 1) (St.sI σ7 4 (2 * n) (nI a)) (St.sI σ9 4 (2 * n + 1) (nI a)) := g9.tr (exA.I (by omega) (by omega))
    refine h _ ?_ (k8.tr g10.2.2.2.2)
    refine RC_ex hR8 g10 (rC_fr (σ := σ9) ?_ rfl rfl ?_ ?_ ?_ ?_ r9) ⟨?_, ?_⟩
    all_goals simp (disch := omega) only [I_aI_s, I_aI_n, pk_us]
    have z := (hR8.2 (2 * n + 1) (by omega)).2
    rw [setO_n (by omega), setP_o, setP_o, f4] at z
    exact p5.trans z
  · obtain rfl := hK2 _ hj
    obtain ⟨oa, ob, one⟩ : a < 80 ∧ b < 80 ∧ a ≠ b := ho
    obtain ⟨x, hA, hv⟩ := living_0 (show living (A.1 a) _ = 0 from h0)
    obtain ⟨y, hA2, hv⟩ := living_0 hv
    have hca : carryA A n (8, (rc, fc), (a, b, c), e, f) = setO (setP (setP (setP A a none) b none) (2 * n) (some (x.ar + y.ar, x.sh, x.mn, x.mo, 0))) (2 * n) (nI a, nI b) := (onP_s hA).trans (onP_s hA2)
    rw [hca] at h
    obtain ⟨f1, f2, f3, f4⟩ := hf
    have na : a ≠ 2 * n := fun z => by rw [z, f1] at hA; cases hA
    have nb : b ≠ 2 * n := fun z => by rw [z, f1] at hA2; cases hA2
    have hm4 := (hB a oa x hA).2
    have rx := hR.1 a oa
    rw [hA] at rx
    have ry := hR.1 b ob
    rw [hA2] at ry
    have ea : (nI a).toNatClampNeg = a := nI_clamp (by omega)
    have eb : (nI b).toNatClampNeg = b := nI_clamp (by omega)
    have g1 : exA a σ (St.sI σ 1 a 0) := exA.I (by omega) (by omega)
    have hR1 : RC (St.sI σ 1 a 0) (setP A a none) := RC_ex1 hR oa g1 (by show St.I (St.sI σ 1 a 0) 1 a = 0; simp (disch := omega) only [I_aI_s, pk_us]) ⟨by simp (disch := omega) only [I_aI_n], by simp (disch := omega) only [I_aI_n]⟩
    have g2 : exA b (St.sI σ 1 a 0) (St.sI (St.sI σ 1 a 0) 1 b 0) := exA.I (by omega) (by omega)
    have hR2 : RC (St.sI (St.sI σ 1 a 0) 1 b 0) (setP (setP A a none) b none) := RC_ex1 hR1 ob g2 (by show St.I (St.sI (St.sI σ 1 a 0) 1 b 0) 1 b = 0; simp (disch := omega) only [I_aI_s, pk_us]) ⟨by simp (disch := omega) only [I_aI_n], by simp (disch := omega) only [I_aI_n]⟩
    have hd2 : rD (St.sI (St.sI σ 1 a 0) 1 b 0) a x := by
      obtain ⟨x1, x2, x3, x4, x5, x6⟩ := rx
      refine ⟨x2, x3, ?_, fun r hr => ?_, ?_⟩
      all_goals simp (disch := omega) only [I_aI_n]
      · exact x4
      · exact x5 r hr
      · exact x6
    have k2 := g1.2.2.2.2.tr g2.2.2.2.2
    unfold wp_Me_carryOut
    rw [h10, ea, h11, eb, h6, e2, c2]
    refine ⟨hn, hj, vp_in_nI oa (by decide), vp_in_nI ob (by decide), v2, ?_⟩
    rw [show St.L (St.sI (St.sI σ 1 a 0) 1 b 0) 1 a = x.ar from rx.2.1, show St.L (St.sI (St.sI σ 1 a 0) 1 b 0) 1 b = y.ar from ry.2.1]
    refine ok_makeFrom Γ (by omega) oa na hd2 hm4 (fun σ7 g7 r7 o4 o5 => ?_)
    have k7 := k2.tr g7.2.2.2.2
    rw [show σ7.I 10 n = nI a by rw [k7.1 10 (by omega)]; exact h10]
    have k8 : keepC σ (St.sI σ7 4 (2 * n) (nI a)) := k7.tr (keepC.I (by omega))
    rw [show St.I (St.sI σ7 4 (2 * n) (nI a)) 11 n = nI b by rw [k8.1 11 (by omega)]; exact h11]
    have g8 : exA (2 * n) (St.sI (St.sI σ 1 a 0) 1 b 0) (St.sI (St.sI σ7 4 (2 * n) (nI a)) 5 (2 * n) (nI b)) := (g7.tr (exA.I (by omega) (by omega))).tr (exA.I (by omega) (by omega))
    refine h _ ?_ (k2.tr g8.2.2.2.2)
    refine RC_ex hR2 g8 (rC_fr (σ := σ7) ?_ rfl rfl ?_ ?_ ?_ ?_ r7) ⟨?_, ?_⟩
    all_goals simp (disch := omega) only [I_aI_s, I_aI_n, pk_us]
