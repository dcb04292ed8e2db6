/-! What the single cells of the layout hold -/
theorem lay_LR {AC : Nat → ClassId} {Γ : Ev} {σ : St} : lay AC Γ σ 0 = .inr (0, [.ref (Γ.ad 1), .ref (Γ.ad 2), .ref (Γ.ad 3), .int (σ.I 0 0), .int (σ.I 0 1)]) := lay_0 (by decide)
theorem lay_bn {AC : Nat → ClassId} {Γ : Ev} {σ : St} : lay AC Γ σ 1 = .inl (AC 3, 40, .inr (.inr (.inr (.inr (σ.Rf 0))))) := lay_0 (by decide)
theorem lay_bf {AC : Nat → ClassId} {Γ : Ev} {σ : St} : lay AC Γ σ 2 = .inl (AC 3, 40, .inr (.inr (.inr (.inr (σ.Rf 1))))) := lay_0 (by decide)
theorem lay_pa {AC : Nat → ClassId} {Γ : Ev} {σ : St} : lay AC Γ σ 3 = .inl (AC 4, 80, .inr (.inr (.inr (.inr (fun p => if p < 80 then some (Γ.ad (4 + 4 * p)) else none))))) := lay_0 (by decide)
theorem lay_MO {AC : Nat → ClassId} {Γ : Ev} {σ : St} : lay AC Γ σ 324 = .inr (11, [.int (σ.I 20 0), .int (σ.I 20 1), .int (σ.I 20 2), .ref (Γ.ad 325), .ref (Γ.ad 326), .ref (Γ.ad 327), .ref (Γ.ad 328), .ref (Γ.ad 329), .ref (Γ.ad 330), .ref (Γ.ad 331), .ref (Γ.ad 332), .ref (Γ.ad 333), .ref (Γ.ad 334), .ref (Γ.ad 335), .ref (Γ.ad 336), .ref (Γ.ad 337), .ref (Γ.ad 338), .ref (Γ.ad 339), .ref (Γ.ad 340), .ref (Γ.ad 341), .ref (Γ.ad 342)]) := lay_M (j := 0) (by decide)
theorem lay_m0 {AC : Nat → ClassId} {Γ : Ev} {σ : St} : lay AC Γ σ 325 = .inl (AC 0, 40, .inl (σ.I 21)) := lay_M (j := 1) (by decide)
theorem lay_m1 {AC : Nat → ClassId} {Γ : Ev} {σ : St} : lay AC Γ σ 326 = .inl (AC 0, 40, .inl (σ.I 22)) := lay_M (j := 2) (by decide)
theorem lay_m2 {AC : Nat → ClassId} {Γ : Ev} {σ : St} : lay AC Γ σ 327 = .inl (AC 0, 40, .inl (σ.I 23)) := lay_M (j := 3) (by decide)
theorem lay_m3 {AC : Nat → ClassId} {Γ : Ev} {σ : St} : lay AC Γ σ 328 = .inl (AC 0, 40, .inl (σ.I 24)) := lay_M (j := 4) (by decide)
theorem lay_m4 {AC : Nat → ClassId} {Γ : Ev} {σ : St} : lay AC Γ σ 329 = .inl (AC 0, 40, .inl (σ.I 25)) := lay_M (j := 5) (by decide)
theorem lay_m5 {AC : Nat → ClassId} {Γ : Ev} {σ : St} : lay AC Γ σ 330 = .inl (AC 0, 40, .inl (σ.I 26)) := lay_M (j := 6) (by decide)
theorem lay_m6 {AC : Nat → ClassId} {Γ : Ev} {σ : St} : lay AC Γ σ 331 = .inl (AC 0, 40, .inl (σ.I 27)) := lay_M (j := 7) (by decide)
theorem lay_m7 {AC : Nat → ClassId} {Γ : Ev} {σ : St} : lay AC Γ σ 332 = .inl (AC 0, 40, .inl (σ.I 28)) := lay_M (j := 8) (by decide)
theorem lay_m8 {AC : Nat → ClassId} {Γ : Ev} {σ : St} : lay AC Γ σ 333 = .inl (AC 2, 80, .inl (σ.I 29)) := lay_M (j := 9) (by decide)
theorem lay_m9 {AC : Nat → ClassId} {Γ : Ev} {σ : St} : lay AC Γ σ 334 = .inl (AC 1, 80, .inr (.inl (σ.L 3))) := lay_M (j := 10) (by decide)
theorem lay_m10 {AC : Nat → ClassId} {Γ : Ev} {σ : St} : lay AC Γ σ 335 = .inl (AC 1, 640, .inr (.inl (σ.L 4))) := lay_M (j := 11) (by decide)
theorem lay_m11 {AC : Nat → ClassId} {Γ : Ev} {σ : St} : lay AC Γ σ 336 = .inl (AC 1, 640, .inr (.inl (σ.L 5))) := lay_M (j := 12) (by decide)
theorem lay_m12 {AC : Nat → ClassId} {Γ : Ev} {σ : St} : lay AC Γ σ 337 = .inl (AC 0, 80, .inl (σ.I 30)) := lay_M (j := 13) (by decide)
theorem lay_m13 {AC : Nat → ClassId} {Γ : Ev} {σ : St} : lay AC Γ σ 338 = .inl (AC 0, 320, .inl (σ.I 31)) := lay_M (j := 14) (by decide)
theorem lay_m14 {AC : Nat → ClassId} {Γ : Ev} {σ : St} : lay AC Γ σ 339 = .inl (AC 0, 320, .inl (σ.I 32)) := lay_M (j := 15) (by decide)
theorem lay_m15 {AC : Nat → ClassId} {Γ : Ev} {σ : St} : lay AC Γ σ 340 = .inl (AC 0, 80, .inl (σ.I 33)) := lay_M (j := 16) (by decide)
theorem lay_m16 {AC : Nat → ClassId} {Γ : Ev} {σ : St} : lay AC Γ σ 341 = .inl (AC 0, 80, .inl (σ.I 34)) := lay_M (j := 17) (by decide)
theorem lay_m17 {AC : Nat → ClassId} {Γ : Ev} {σ : St} : lay AC Γ σ 342 = .inl (AC 0, 80, .inl (σ.I 35)) := lay_M (j := 18) (by decide)
theorem lay_m18 {AC : Nat → ClassId} {Γ : Ev} {σ : St} : lay AC Γ σ 343 = .inl (AC 1, 1, .inr (.inl (σ.L 6))) := lay_M (j := 19) (by decide)
theorem lay_p {AC : Nat → ClassId} {Γ : Ev} {σ : St} {p : Nat} (hp : p < 80) : lay AC Γ σ (4 + 4 * p) = .inr (1, [.int (σ.I 1 p), .long (σ.L 1 p), .ref (Γ.ad (5 + 4 * p)), .int (σ.I 2 p), .ref (Γ.ad (6 + 4 * p)), .ref (Γ.ad (7 + 4 * p)), .int (σ.I 3 p), .int (σ.I 4 p), .int (σ.I 5 p)]) := lay_P0 hp
theorem lay_sh {AC : Nat → ClassId} {Γ : Ev} {σ : St} {p : Nat} (hp : p < 80) : lay AC Γ σ (5 + 4 * p) = .inl (AC 1, 8, .inr (.inl (σ.L (100 + p)))) := lay_P1 hp
theorem lay_cr {AC : Nat → ClassId} {Γ : Ev} {σ : St} {p : Nat} (hp : p < 80) : lay AC Γ σ (6 + 4 * p) = .inl (AC 0, 4, .inl (σ.I (100 + p))) := lay_P2 hp
theorem lay_am {AC : Nat → ClassId} {Γ : Ev} {σ : St} {p : Nat} (hp : p < 80) : lay AC Γ σ (7 + 4 * p) = .inl (AC 0, 4, .inl (σ.I (200 + p))) := lay_P3 hp
theorem def_Fo : ∀ j, j < 6 → defaultValue (e_Fo j) = vp_V [.int 0, .int 0, .int 0, .int 0, .int 0, .int 0] j := by
  intro j hj
  match j, hj with
  | 0, _ => rfl
  | 1, _ => rfl
  | 2, _ => rfl
  | 3, _ => rfl
  | 4, _ => rfl
  | 5, _ => rfl
  | j + 6, hj => exact absurd hj (by omega)
theorem def_Se : ∀ j, j < 8 → defaultValue (e_Se j) = vp_V [.int 0, .int 0, .int 0, .int 0, .int 0, .int 0, .int 0, .long 0] j := by
  intro j hj
  match j, hj with
  | 0, _ => rfl
  | 1, _ => rfl
  | 2, _ => rfl
  | 3, _ => rfl
  | 4, _ => rfl
  | 5, _ => rfl
  | 6, _ => rfl
  | 7, _ => rfl
  | j + 8, hj => exact absurd hj (by omega)
theorem def_Pl : ∀ j, j < 7 → defaultValue (e_Pl j) = vp_V [.int 0, .int 0, .int 0, .int 0, .int 0, .int 0, .int 0] j := by
  intro j hj
  match j, hj with
  | 0, _ => rfl
  | 1, _ => rfl
  | 2, _ => rfl
  | 3, _ => rfl
  | 4, _ => rfl
  | 5, _ => rfl
  | 6, _ => rfl
  | j + 7, hj => exact absurd hj (by omega)
theorem def_Re : ∀ j, j < 8 → defaultValue (e_Re j) = vp_V [.int 0, .int 0, .int 0, .int 0, .int 0, .int 0, .int 0, .int 0] j := by
  intro j hj
  match j, hj with
  | 0, _ => rfl
  | 1, _ => rfl
  | 2, _ => rfl
  | 3, _ => rfl
  | 4, _ => rfl
  | 5, _ => rfl
  | 6, _ => rfl
  | 7, _ => rfl
  | j + 8, hj => exact absurd hj (by omega)
theorem def_Rl : ∀ j, j < 6 → defaultValue (e_Rl j) = vp_V [.int 0, .int 0, .int 0, .int 0, .int 0, .int 0] j := by
  intro j hj
  match j, hj with
  | 0, _ => rfl
  | 1, _ => rfl
  | 2, _ => rfl
  | 3, _ => rfl
  | 4, _ => rfl
  | 5, _ => rfl
  | j + 6, hj => exact absurd hj (by omega)
theorem def_Ca : ∀ j, j < 6 → defaultValue (e_Ca j) = vp_V [.int 0, .int 0, .int 0, .int 0, .int 0, .int 0] j := by
  intro j hj
  match j, hj with
  | 0, _ => rfl
  | 1, _ => rfl
  | 2, _ => rfl
  | 3, _ => rfl
  | 4, _ => rfl
  | 5, _ => rfl
  | j + 6, hj => exact absurd hj (by omega)
theorem def_Li : ∀ j, j < 6 → defaultValue (e_Li j) = vp_V [.int 0, .int 0, .int 0, .int 0, .int 0, .int 0] j := by
  intro j hj
  match j, hj with
  | 0, _ => rfl
  | 1, _ => rfl
  | 2, _ => rfl
  | 3, _ => rfl
  | 4, _ => rfl
  | 5, _ => rfl
  | j + 6, hj => exact absurd hj (by omega)
theorem def_Sp : ∀ j, j < 6 → defaultValue (e_Sp j) = vp_V [.int 0, .int 0, .int 0, .int 0, .int 0, .int 0] j := by
  intro j hj
  match j, hj with
  | 0, _ => rfl
  | 1, _ => rfl
  | 2, _ => rfl
  | 3, _ => rfl
  | 4, _ => rfl
  | 5, _ => rfl
  | j + 6, hj => exact absurd hj (by omega)
theorem def_Me : ∀ j, j < 6 → defaultValue (e_Me j) = vp_V [.int 0, .int 0, .int 0, .int 0, .int 0, .int 0] j := by
  intro j hj
  match j, hj with
  | 0, _ => rfl
  | 1, _ => rfl
  | 2, _ => rfl
  | 3, _ => rfl
  | 4, _ => rfl
  | 5, _ => rfl
  | j + 6, hj => exact absurd hj (by omega)
