/-! What a deed does to the land -/
def setP (A : Land) (p : Nat) (P : Option Pd) : Land := (va_up A.1 p P, A.2)
def setO (A : Land) (p : Nat) (o : Int32 × Int32) : Land := (A.1, va_up A.2 p o)
/-- the mortgage at place i comes to place j: where each place's mortgage was -/
def cyc (i j q : Nat) : Nat := if q = j then i else if i ≤ q ∧ q < j then q + 1 else if j < q ∧ q ≤ i then q - 1 else q
def onP (A : Land) (p : Nat) (f : Pd → Land) : Land := match A.1 p with
  | none => A
  | some x => f x
def carryA (A : Land) (n : Nat) (d : Dd) : Land := match d.k with
  | 0 => setP A (2 * n) (some ((nI d.a).toInt64, va_up (fun _ => (0, 1)) d.b (1, 1), 0, fun _ => (0, 0), 0))
  | 1 => onP A d.a (fun x => setP A d.a (some (x.ar, va_up (va_up x.sh d.b (subS (x.sh d.b) d.f)) d.c (addS (x.sh d.c) d.f), x.mn, x.mo, x.wn)))
  | 2 => onP A d.a (fun x => setP A d.a (some (x.ar, x.sh, x.mn + 1, va_up x.mo x.mn (nI d.b, nI d.c), x.wn)))
  | 3 => onP A d.a (fun x => setP A d.a (some (x.ar, x.sh, x.mn, fun i => x.mo (cyc (d.b - 1) (d.c - 1) i), x.wn)))
  | 4 => onP A d.a (fun x => setP A d.a (some (x.ar, x.sh, x.mn - 1, fun i => if i < d.b - 1 then x.mo i else x.mo (i + 1), x.wn)))
  | 5 => onP A d.a (fun x => setP A d.a (some (x.ar, x.sh, x.mn, x.mo, x.wn ^^^ ((1 : Int32) <<< (nI d.b &&& 31)))))
  | 6 => onP A d.a (fun x => setP A d.a (some (x.ar, x.sh, x.mn, x.mo, x.wn ^^^ ((1 : Int32) <<< (nI d.b &&& 31)))))
  | 7 => onP A d.a (fun x => setO (setO (setP (setP (setP A d.a none) (2 * n) (some ((nI d.b).toInt64, x.sh, x.mn, x.mo, 0))) (2 * n + 1) (some (x.ar - (nI d.b).toInt64, x.sh, x.mn, x.mo, 0))) (2 * n) (nI d.a, -1)) (2 * n + 1) (nI d.a, -1))
  | _ => onP A d.a (fun x => onP A d.b (fun y => setO (setP (setP (setP A d.a none) d.b none) (2 * n) (some (x.ar + y.ar, x.sh, x.mn, x.mo, 0))) (2 * n) (nI d.a, nI d.b)))
/-- the numbers that a deed gives are free -/
def fresh (A : Land) (n : Nat) : Prop := A.1 (2 * n) = none ∧ A.1 (2 * n + 1) = none ∧ A.2 (2 * n) = (-1, -1) ∧ A.2 (2 * n + 1) = (-1, -1)
def keepC (σ σ' : St) : Prop := (∀ k, (k = 0 ∨ (6 ≤ k ∧ k < 100)) → σ'.I k = σ.I k) ∧ (∀ k, (k ≠ 1 ∧ k < 100) → σ'.L k = σ.L k) ∧ σ'.Rf = σ.Rf
def keepM (σ σ' : St) : Prop := (∀ k, ¬ (29 ≤ k ∧ k ≤ 35) → σ'.I k = σ.I k) ∧ (∀ k, ¬ (3 ≤ k ∧ k ≤ 5) → σ'.L k = σ.L k) ∧ σ'.Rf = σ.Rf
theorem keepC.rf {σ : St} : keepC σ σ := ⟨fun _ _ => rfl, fun _ _ => rfl, rfl⟩
theorem keepC.tr {σ σ1 σ2 : St} (h : keepC σ σ1) (h2 : keepC σ1 σ2) : keepC σ σ2 := ⟨fun k hk => (h2.1 k hk).trans (h.1 k hk), fun k hk => (h2.2.1 k hk).trans (h.2.1 k hk), h2.2.2.trans h.2.2⟩
theorem keepC.I {σ : St} {k : Nat} {f : Nat → Int32} (h : ¬ (k = 0 ∨ (6 ≤ k ∧ k < 100))) : keepC σ (σ.aI k f) := ⟨fun j hj => I_aI_n (fun z => h (z ▸ hj)), fun _ _ => rfl, rfl⟩
theorem keepC.L {σ : St} {k : Nat} {f : Nat → Int64} (h : ¬ (k ≠ 1 ∧ k < 100)) : keepC σ (σ.aL k f) := ⟨fun _ _ => rfl, fun j hj => L_aL_n (fun z => h (z ▸ hj)), rfl⟩
theorem keepM.rf {σ : St} : keepM σ σ := ⟨fun _ _ => rfl, fun _ _ => rfl, rfl⟩
theorem keepM.tr {σ σ1 σ2 : St} (h : keepM σ σ1) (h2 : keepM σ1 σ2) : keepM σ σ2 := ⟨fun k hk => (h2.1 k hk).trans (h.1 k hk), fun k hk => (h2.2.1 k hk).trans (h.2.1 k hk), h2.2.2.trans h.2.2⟩
theorem keepM.I {σ : St} {k : Nat} {f : Nat → Int32} (h : 29 ≤ k ∧ k ≤ 35) : keepM σ (σ.aI k f) := ⟨fun j hj => I_aI_n (fun z => hj (z ▸ h)), fun _ _ => rfl, rfl⟩
theorem keepM.L {σ : St} {k : Nat} {f : Nat → Int64} (h : 3 ≤ k ∧ k ≤ 5) : keepM σ (σ.aL k f) := ⟨fun _ _ => rfl, fun j hj => L_aL_n (fun z => hj (z ▸ h)), rfl⟩
theorem rC_fr {σ σ' : St} {p : Nat} {P : Option Pd} (h1 : σ'.I 1 p = σ.I 1 p) (l1 : σ'.L 1 p = σ.L 1 p) (l100 : σ'.L (100 + p) = σ.L (100 + p)) (h2 : σ'.I 2 p = σ.I 2 p) (h100 : σ'.I (100 + p) = σ.I (100 + p)) (h200 : σ'.I (200 + p) = σ.I (200 + p)) (h3 : σ'.I 3 p = σ.I 3 p) (h : rC σ p P) : rC σ' p P := by
  cases P with
  | none => exact h1.trans h
  | some x =>
    obtain ⟨x1, x2, x3, x4, x5, x6⟩ := h
    exact ⟨h1.trans x1, l1.trans x2, fun s hs => by rw [l100]; exact x3 s hs, h2.trans x4, fun r hr => by rw [h100, h200]; exact x5 r hr, h3.trans x6⟩
theorem setP_s {A : Land} {p : Nat} {P : Option Pd} : (setP A p P).1 p = P := va_up_self _ _ _
theorem setP_n {A : Land} {p q : Nat} {P : Option Pd} (h : q ≠ p) : (setP A p P).1 q = A.1 q := va_up_ne _ _ h
theorem setP_o {A : Land} {p : Nat} {P : Option Pd} : (setP A p P).2 = A.2 := rfl
theorem setO_p {A : Land} {p : Nat} {o : Int32 × Int32} : (setO A p o).1 = A.1 := rfl
theorem setO_s {A : Land} {p : Nat} {o : Int32 × Int32} : (setO A p o).2 p = o := va_up_self _ _ _
theorem setO_n {A : Land} {p q : Nat} {o : Int32 × Int32} (h : q ≠ p) : (setO A p o).2 q = A.2 q := va_up_ne _ _ h
/-- a change of parcel a alone, that lives on -/
theorem RC_one {σ σ' : St} {A : Land} {a : Nat} {x x' : Pd} (hR : RC σ A) (ha : a < 80)
    (hI : ∀ k, k ≤ 5 → ∀ p, p ≠ a → σ'.I k p = σ.I k p) (hL : ∀ p, p ≠ a → σ'.L 1 p = σ.L 1 p) (hI1 : ∀ p, p < 80 → p ≠ a → σ'.I (100 + p) = σ.I (100 + p) ∧ σ'.I (200 + p) = σ.I (200 + p)) (hL1 : ∀ p, p < 80 → p ≠ a → σ'.L (100 + p) = σ.L (100 + p)) (hO : σ'.I 4 a = σ.I 4 a ∧ σ'.I 5 a = σ.I 5 a)
    (hx : rC σ' a (some x')) : RC σ' (setP A a (some x')) := by
  refine ⟨fun p hp => ?_, fun p hp => ?_⟩
  · by_cases h : p = a
    · subst h; rw [setP_s]; exact hx
    · rw [setP_n h]
      exact rC_fr (hI 1 (by omega) p h) (hL p h) (hL1 p hp h) (hI 2 (by omega) p h) (hI1 p hp h).1 (hI1 p hp h).2 (hI 3 (by omega) p h) (hR.1 p hp)
  · rw [setP_o]
    by_cases h : p = a
    · subst h; rw [hO.1, hO.2]; exact hR.2 p hp
    · rw [hI 4 (by omega) p h, hI 5 (by omega) p h]; exact hR.2 p hp
theorem xor_or {w m : Int32} (h : w &&& m = 0) : w ||| m = w ^^^ m := by
  rw [← Int32.toBitVec_inj] at h ⊢
  rw [Int32.toBitVec_or, Int32.toBitVec_xor]
  rw [Int32.toBitVec_and] at h
  apply BitVec.eq_of_getLsbD_eq
  intro i hi
  have hb := congrArg (fun v => BitVec.getLsbD v i) h
  simp only [BitVec.getLsbD_and, BitVec.getLsbD_or, BitVec.getLsbD_xor] at hb ⊢
  have h0 : BitVec.getLsbD (Int32.toBitVec 0) i = false := by
    show BitVec.getLsbD 0#32 i = false
    exact BitVec.getLsbD_zero
  rw [h0] at hb
  cases h1 : w.toBitVec.getLsbD i <;> cases h2 : m.toBitVec.getLsbD i <;> simp_all
theorem xor_and {w m : Int32} (h : w &&& m = m) : w &&& (m ^^^ -1) = w ^^^ m := by
  rw [← Int32.toBitVec_inj] at h ⊢
  rw [Int32.toBitVec_and, Int32.toBitVec_xor, Int32.toBitVec_xor]
  rw [Int32.toBitVec_and] at h
  apply BitVec.eq_of_getLsbD_eq
  intro i hi
  have hb := congrArg (fun v => BitVec.getLsbD v i) h
  simp only [BitVec.getLsbD_and, BitVec.getLsbD_xor] at hb ⊢
  have h0 : BitVec.getLsbD (Int32.toBitVec (-1)) i = true := by
    show BitVec.getLsbD (BitVec.allOnes 32) i = true
    rw [BitVec.getLsbD_allOnes]
    exact decide_eq_true hi
  rw [h0]
  cases h1 : w.toBitVec.getLsbD i <;> cases h2 : m.toBitVec.getLsbD i <;> simp_all
