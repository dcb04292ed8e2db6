/-! Bounds and free numbers are kept -/
theorem pB.up {k j : Nat} {x : Pd} (h : pB k x) (hj : k ≤ j) : pB j x := ⟨fun s hs => (h.1 s hs).up hj, h.2⟩
theorem LB.up {k j : Nat} {A : Land} (h : LB k A) (hj : k ≤ j) : LB j A := fun p hp x hx => (h p hp x hx).up hj
theorem LB_carry {A : Land} {n k : Nat} {d : Dd} (hk : 0 < k) (ho : dOK d) (h0 : hindA A d = 0) (hB : LB k A) : LB (k + 1) (carryA A n d) := by
  obtain ⟨kd, ⟨rc, fc⟩, ⟨a, b, c⟩, e, f⟩ := d
  have hB1 : LB (k + 1) A := hB.up (by omega)
  match kd, ho, h0 with
  | 0, ho, h0 =>
    refine LB_setP hB1 (fun x hx => ?_)
    cases hx
    refine ⟨fun s hs => ?_, Nat.zero_le _⟩
    show shB (k + 1) (va_up (fun _ => (0, 1)) b (1, 1) s)
    by_cases w : s = b
    · subst w; rw [va_up_self]; exact ⟨by decide, by decide, by decide, by show 1 ≤ (k + 1) * 1; omega⟩
    · rw [va_up_ne _ _ w]; exact ⟨by decide, by decide, fun _ => rfl, Nat.zero_le _⟩
  | 1, ho, h0 =>
    obtain ⟨oa, ob, oc, one, of⟩ : a < 80 ∧ b < 8 ∧ c < 8 ∧ b ≠ c ∧ frOK f := ho
    obtain ⟨x, hA, hw, hv⟩ := closed_0 (show closed (A.1 a) _ = 0 from h0)
    have hb := hB a oa x hA
    have hv : (if (x.sh b).1 * f.2 < f.1 * (x.sh b).2 then 3 else if (subS (x.sh b) f).2 ≤ 1000000 ∧ (addS (x.sh c) f).2 ≤ 1000000 then 0 else 4) = 0 := hv
    have hle : ¬ (x.sh b).1 * f.2 < f.1 * (x.sh b).2 := fun z => by rw [if_pos z] at hv; exact absurd hv (by decide)
    rw [if_neg hle] at hv
    have hfin : (subS (x.sh b) f).2 ≤ 1000000 ∧ (addS (x.sh c) f).2 ≤ 1000000 := by
      by_cases z : (subS (x.sh b) f).2 ≤ 1000000 ∧ (addS (x.sh c) f).2 ≤ 1000000
      · exact z
      · rw [if_neg z] at hv; exact absurd hv (by decide)
    rw [show carryA A n (1, (rc, fc), (a, b, c), e, f) = setP A a (some (x.ar, va_up (va_up x.sh b (subS (x.sh b) f)) c (addS (x.sh c) f), x.mn, x.mo, x.wn)) from onP_s hA]
    refine LB_setP hB1 (fun y hy => ?_)
    cases hy
    refine ⟨fun s hs => ?_, hb.2⟩
    show shB (k + 1) (va_up (va_up x.sh b (subS (x.sh b) f)) c (addS (x.sh c) f) s)
    by_cases z : s = c
    · subst z; rw [va_up_self]; exact add_B (hb.1 s hs) of hfin.2
    · rw [va_up_ne _ _ z]
      by_cases z2 : s = b
      · subst z2; rw [va_up_self]; exact (sub_B hk (hb.1 s hs) of hfin.1).up (by omega)
      · rw [va_up_ne _ _ z2]; exact (hb.1 s hs).up (by omega)
  | 2, ho, h0 =>
    obtain ⟨oa, ob, oc⟩ : a < 80 ∧ b < 8 ∧ 1 ≤ c ∧ c ≤ 1000000000 := ho
    obtain ⟨x, hA, hw, hv⟩ := closed_0 (show closed (A.1 a) _ = 0 from h0)
    have hb := hB1 a oa x hA
    have hm : x.mn < 4 := by
      by_cases z : x.mn < 4
      · exact z
      · rw [if_neg z] at hv; exact absurd hv (by decide)
    rw [show carryA A n (2, (rc, fc), (a, b, c), e, f) = setP A a (some (x.ar, x.sh, x.mn + 1, va_up x.mo x.mn (nI b, nI c), x.wn)) from onP_s hA]
    refine LB_setP hB1 (fun y hy => ?_)
    cases hy
    exact ⟨hb.1, by show x.mn + 1 ≤ 4; omega⟩
  | 3, ho, h0 =>
    obtain ⟨x, hA, hw, hv⟩ := closed_0 (show closed (A.1 a) _ = 0 from h0)
    have oa : a < 80 := ho.1
    have hb := hB1 a oa x hA
    rw [show carryA A n (3, (rc, fc), (a, b, c), e, f) = setP A a (some (x.ar, x.sh, x.mn, fun i => x.mo (cyc (b - 1) (c - 1) i), x.wn)) from onP_s hA]
    exact LB_setP hB1 (fun y hy => by cases hy; exact hb)
  | 4, ho, h0 =>
    obtain ⟨x, hA, hv⟩ := living_0 (show living (A.1 a) _ = 0 from h0)
    have oa : a < 80 := ho.1
    have hb := hB1 a oa x hA
    rw [show carryA A n (4, (rc, fc), (a, b, c), e, f) = setP A a (some (x.ar, x.sh, x.mn - 1, fun i => if i < b - 1 then x.mo i else x.mo (i + 1), x.wn)) from onP_s hA]
    exact LB_setP hB1 (fun y hy => by cases hy; exact ⟨hb.1, by have := hb.2; show x.mn - 1 ≤ 4; omega⟩)
  | 5, ho, h0 =>
    obtain ⟨x, hA, hv⟩ := living_0 (show living (A.1 a) _ = 0 from h0)
    have oa : a < 80 := ho.1
    have hb := hB1 a oa x hA
    rw [show carryA A n (5, (rc, fc), (a, b, c), e, f) = setP A a (some (x.ar, x.sh, x.mn, x.mo, x.wn ^^^ ((1 : Int32) <<< (nI b &&& 31)))) from onP_s hA]
    exact LB_setP hB1 (fun y hy => by cases hy; exact hb)
  | 6, ho, h0 =>
    obtain ⟨x, hA, hv⟩ := living_0 (show living (A.1 a) _ = 0 from h0)
    have oa : a < 80 := ho.1
    have hb := hB1 a oa x hA
    rw [show carryA A n (6, (rc, fc), (a, b, c), e, f) = setP A a (some (x.ar, x.sh, x.mn, x.mo, x.wn ^^^ ((1 : Int32) <<< (nI b &&& 31)))) from onP_s hA]
    exact LB_setP hB1 (fun y hy => by cases hy; exact hb)
  | 7, ho, h0 =>
    obtain ⟨x, hA, hw, hv⟩ := closed_0 (show closed (A.1 a) _ = 0 from h0)
    have oa : a < 80 := ho.1
    have hb := hB1 a oa x hA
    rw [show carryA A n (7, (rc, fc), (a, b, c), e, f) = setO (setP (setO (setP (setP A a none) (2 * n) (some ((nI b).toInt64, x.sh, x.mn, x.mo, 0))) (2 * n) (nI a, -1)) (2 * n + 1) (some (x.ar - (nI b).toInt64, x.sh, x.mn, x.mo, 0))) (2 * n + 1) (nI a, -1) from onP_s hA]
    exact LB_setO (LB_setP (LB_setO (LB_setP (LB_setP hB1 (fun y hy => by cases hy)) (fun y hy => by cases hy; exact hb))) (fun y hy => by cases hy; exact hb))
  | 8, ho, h0 =>
    obtain ⟨x, hA, hv⟩ := living_0 (show living (A.1 a) _ = 0 from h0)
    obtain ⟨y, hA2, hv⟩ := living_0 hv
    have oa : a < 80 := ho.1
    have hb := hB1 a oa x hA
    rw [show carryA A n (8, (rc, fc), (a, b, c), e, f) = setO (setP (setP (setP A a none) b none) (2 * n) (some (x.ar + y.ar, x.sh, x.mn, x.mo, 0))) (2 * n) (nI a, nI b) from (onP_s hA).trans (onP_s hA2)]
    exact LB_setO (LB_setP (LB_setP (LB_setP hB1 (fun y hy => by cases hy)) (fun y hy => by cases hy)) (fun y hy => by cases hy; exact hb))
  | _ + 9, ho, h0 => exact False.elim ho
theorem fresh_setP {A : Land} {m p : Nat} {P : Option Pd} (hf : fresh A m) (h1 : p ≠ 2 * m) (h2 : p ≠ 2 * m + 1) : fresh (setP A p P) m := ⟨(setP_n (fun z => h1 z.symm)).trans hf.1, (setP_n (fun z => h2 z.symm)).trans hf.2.1, hf.2.2⟩
theorem fresh_setO {A : Land} {m p : Nat} {o : Int32 × Int32} (hf : fresh A m) (h1 : p ≠ 2 * m) (h2 : p ≠ 2 * m + 1) : fresh (setO A p o) m := ⟨hf.1, hf.2.1, (setO_n (fun z => h1 z.symm)).trans hf.2.2.1, (setO_n (fun z => h2 z.symm)).trans hf.2.2.2⟩
theorem fresh_carry {A : Land} {n m : Nat} {d : Dd} (hne : m ≠ n) (hf : fresh A m) : fresh (carryA A n d) m := by
  obtain ⟨kd, ⟨rc, fc⟩, ⟨a, b, c⟩, e, f⟩ := d
  have hal : ∀ p x, A.1 p = some x → p ≠ 2 * m ∧ p ≠ 2 * m + 1 := fun p x hx => ⟨(fun z => by rw [z, hf.1] at hx; cases hx), (fun z => by rw [z, hf.2.1] at hx; cases hx)⟩
  have on : ∀ p (g : Pd → Land), (∀ x, A.1 p = some x → fresh (g x) m) → fresh (onP A p g) m := fun p g hg => by
    cases hA : A.1 p with
    | none => unfold onP; rw [hA]; exact hf
    | some x => rw [onP_s hA]; exact hg x hA
  match kd with
  | 0 => exact fresh_setP hf (by omega) (by omega)
  | 1 => exact on a _ (fun x hx => fresh_setP hf (hal a x hx).1 (hal a x hx).2)
  | 2 => exact on a _ (fun x hx => fresh_setP hf (hal a x hx).1 (hal a x hx).2)
  | 3 => exact on a _ (fun x hx => fresh_setP hf (hal a x hx).1 (hal a x hx).2)
  | 4 => exact on a _ (fun x hx => fresh_setP hf (hal a x hx).1 (hal a x hx).2)
  | 5 => exact on a _ (fun x hx => fresh_setP hf (hal a x hx).1 (hal a x hx).2)
  | 6 => exact on a _ (fun x hx => fresh_setP hf (hal a x hx).1 (hal a x hx).2)
  | 7 => exact on a _ (fun x hx => fresh_setO (fresh_setO (fresh_setP (fresh_setP (fresh_setP hf (hal a x hx).1 (hal a x hx).2) (by omega) (by omega)) (by omega) (by omega)) (by omega) (by omega)) (by omega) (by omega))
  | _ + 8 => exact on a _ (fun x hx => on b _ (fun y hy => fresh_setO (fresh_setP (fresh_setP (fresh_setP hf (hal a x hx).1 (hal a x hx).2) (hal b y hy).1 (hal b y hy).2) (by omega) (by omega)) (by omega) (by omega)))
