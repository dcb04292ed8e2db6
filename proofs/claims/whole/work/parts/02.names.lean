/-! Names: the classes (their fields in the order of the rows), the methods (code, name, code word) -/
def T_LR : u_T := fun k => match k with
  | 0 => ("LandRegister", "byNumber", "[LLandRegister$Deed;", true)
  | 1 => ("LandRegister", "byFactDay", "[LLandRegister$Deed;", true)
  | 2 => ("LandRegister", "parcels", "[LLandRegister$Parcel;", true)
  | 3 => ("LandRegister", "filed", "I", false)
  | _ => ("LandRegister", "today", "I", false)
def e_LR : Nat → FieldType := fun k => match k with
  | 0 => .array (.object "LandRegister$Deed")
  | 1 => .array (.object "LandRegister$Deed")
  | 2 => .array (.object "LandRegister$Parcel")
  | 3 => .int
  | _ => .int
theorem nm_LR : ∀ a, a < 5 → ∀ b, b < 5 → a ≠ b → (T_LR a).2.1 ≠ (T_LR b).2.1 := by decide +kernel
theorem ty_LR : ∀ k, k < 5 → parseFieldDescriptor (T_LR k).2.2.1 = some (e_LR k) := by decide +kernel
def T_P : u_T := fun k => match k with
  | 0 => ("LandRegister$Parcel", "lives", "Z", false)
  | 1 => ("LandRegister$Parcel", "area", "J", false)
  | 2 => ("LandRegister$Parcel", "shares", "[J", true)
  | 3 => ("LandRegister$Parcel", "mortgages", "I", false)
  | 4 => ("LandRegister$Parcel", "creditors", "[I", true)
  | 5 => ("LandRegister$Parcel", "amounts", "[I", true)
  | 6 => ("LandRegister$Parcel", "cautions", "I", false)
  | 7 => ("LandRegister$Parcel", "firstOrigin", "I", false)
  | _ => ("LandRegister$Parcel", "secondOrigin", "I", false)
def e_P : Nat → FieldType := fun k => match k with
  | 0 => .boolean
  | 1 => .long
  | 2 => .array .long
  | 3 => .int
  | 4 => .array .int
  | 5 => .array .int
  | 6 => .int
  | 7 => .int
  | _ => .int
theorem nm_P : ∀ a, a < 9 → ∀ b, b < 9 → a ≠ b → (T_P a).2.1 ≠ (T_P b).2.1 := by decide +kernel
theorem ty_P : ∀ k, k < 9 → parseFieldDescriptor (T_P k).2.2.1 = some (e_P k) := by decide +kernel
def T_Fo : u_T := fun k => match k with
  | 0 => ("LandRegister$Deed", "number", "I", false)
  | 1 => ("LandRegister$Deed", "recordDay", "I", false)
  | 2 => ("LandRegister$Deed", "factDay", "I", false)
  | 3 => ("LandRegister$Deed", "outcome", "I", false)
  | 4 => ("LandRegister$Found", "area", "I", true)
  | _ => ("LandRegister$Found", "owner", "I", true)
def e_Fo : Nat → FieldType := fun k => match k with
  | 0 => .int
  | 1 => .int
  | 2 => .int
  | 3 => .int
  | 4 => .int
  | _ => .int
theorem nm_Fo : ∀ a, a < 6 → ∀ b, b < 6 → a ≠ b → (T_Fo a).2.1 ≠ (T_Fo b).2.1 := by decide +kernel
theorem ty_Fo : ∀ k, k < 6 → parseFieldDescriptor (T_Fo k).2.2.1 = some (e_Fo k) := by decide +kernel
def T_Se : u_T := fun k => match k with
  | 0 => ("LandRegister$Deed", "number", "I", false)
  | 1 => ("LandRegister$Deed", "recordDay", "I", false)
  | 2 => ("LandRegister$Deed", "factDay", "I", false)
  | 3 => ("LandRegister$Deed", "outcome", "I", false)
  | 4 => ("LandRegister$Sell", "parcel", "I", true)
  | 5 => ("LandRegister$Sell", "from", "I", true)
  | 6 => ("LandRegister$Sell", "to", "I", true)
  | _ => ("LandRegister$Sell", "fraction", "J", true)
def e_Se : Nat → FieldType := fun k => match k with
  | 0 => .int
  | 1 => .int
  | 2 => .int
  | 3 => .int
  | 4 => .int
  | 5 => .int
  | 6 => .int
  | _ => .long
theorem nm_Se : ∀ a, a < 8 → ∀ b, b < 8 → a ≠ b → (T_Se a).2.1 ≠ (T_Se b).2.1 := by decide +kernel
theorem ty_Se : ∀ k, k < 8 → parseFieldDescriptor (T_Se k).2.2.1 = some (e_Se k) := by decide +kernel
def T_Pl : u_T := fun k => match k with
  | 0 => ("LandRegister$Deed", "number", "I", false)
  | 1 => ("LandRegister$Deed", "recordDay", "I", false)
  | 2 => ("LandRegister$Deed", "factDay", "I", false)
  | 3 => ("LandRegister$Deed", "outcome", "I", false)
  | 4 => ("LandRegister$Pledge", "parcel", "I", true)
  | 5 => ("LandRegister$Pledge", "creditor", "I", true)
  | _ => ("LandRegister$Pledge", "amount", "I", true)
def e_Pl : Nat → FieldType := fun k => match k with
  | 0 => .int
  | 1 => .int
  | 2 => .int
  | 3 => .int
  | 4 => .int
  | 5 => .int
  | _ => .int
theorem nm_Pl : ∀ a, a < 7 → ∀ b, b < 7 → a ≠ b → (T_Pl a).2.1 ≠ (T_Pl b).2.1 := by decide +kernel
theorem ty_Pl : ∀ k, k < 7 → parseFieldDescriptor (T_Pl k).2.2.1 = some (e_Pl k) := by decide +kernel
def T_Re : u_T := fun k => match k with
  | 0 => ("LandRegister$Deed", "number", "I", false)
  | 1 => ("LandRegister$Deed", "recordDay", "I", false)
  | 2 => ("LandRegister$Deed", "factDay", "I", false)
  | 3 => ("LandRegister$Deed", "outcome", "I", false)
  | 4 => ("LandRegister$Rerank", "parcel", "I", true)
  | 5 => ("LandRegister$Rerank", "from", "I", true)
  | 6 => ("LandRegister$Rerank", "to", "I", true)
  | _ => ("LandRegister$Rerank", "consents", "I", true)
def e_Re : Nat → FieldType := fun k => match k with
  | 0 => .int
  | 1 => .int
  | 2 => .int
  | 3 => .int
  | 4 => .int
  | 5 => .int
  | 6 => .int
  | _ => .int
theorem nm_Re : ∀ a, a < 8 → ∀ b, b < 8 → a ≠ b → (T_Re a).2.1 ≠ (T_Re b).2.1 := by decide +kernel
theorem ty_Re : ∀ k, k < 8 → parseFieldDescriptor (T_Re k).2.2.1 = some (e_Re k) := by decide +kernel
def T_Rl : u_T := fun k => match k with
  | 0 => ("LandRegister$Deed", "number", "I", false)
  | 1 => ("LandRegister$Deed", "recordDay", "I", false)
  | 2 => ("LandRegister$Deed", "factDay", "I", false)
  | 3 => ("LandRegister$Deed", "outcome", "I", false)
  | 4 => ("LandRegister$Release", "parcel", "I", true)
  | _ => ("LandRegister$Release", "rank", "I", true)
def e_Rl : Nat → FieldType := fun k => match k with
  | 0 => .int
  | 1 => .int
  | 2 => .int
  | 3 => .int
  | 4 => .int
  | _ => .int
theorem nm_Rl : ∀ a, a < 6 → ∀ b, b < 6 → a ≠ b → (T_Rl a).2.1 ≠ (T_Rl b).2.1 := by decide +kernel
theorem ty_Rl : ∀ k, k < 6 → parseFieldDescriptor (T_Rl k).2.2.1 = some (e_Rl k) := by decide +kernel
def T_Ca : u_T := fun k => match k with
  | 0 => ("LandRegister$Deed", "number", "I", false)
  | 1 => ("LandRegister$Deed", "recordDay", "I", false)
  | 2 => ("LandRegister$Deed", "factDay", "I", false)
  | 3 => ("LandRegister$Deed", "outcome", "I", false)
  | 4 => ("LandRegister$Caution", "parcel", "I", true)
  | _ => ("LandRegister$Caution", "person", "I", true)
def e_Ca : Nat → FieldType := fun k => match k with
  | 0 => .int
  | 1 => .int
  | 2 => .int
  | 3 => .int
  | 4 => .int
  | _ => .int
theorem nm_Ca : ∀ a, a < 6 → ∀ b, b < 6 → a ≠ b → (T_Ca a).2.1 ≠ (T_Ca b).2.1 := by decide +kernel
theorem ty_Ca : ∀ k, k < 6 → parseFieldDescriptor (T_Ca k).2.2.1 = some (e_Ca k) := by decide +kernel
def T_Li : u_T := fun k => match k with
  | 0 => ("LandRegister$Deed", "number", "I", false)
  | 1 => ("LandRegister$Deed", "recordDay", "I", false)
  | 2 => ("LandRegister$Deed", "factDay", "I", false)
  | 3 => ("LandRegister$Deed", "outcome", "I", false)
  | 4 => ("LandRegister$Lift", "parcel", "I", true)
  | _ => ("LandRegister$Lift", "person", "I", true)
def e_Li : Nat → FieldType := fun k => match k with
  | 0 => .int
  | 1 => .int
  | 2 => .int
  | 3 => .int
  | 4 => .int
  | _ => .int
theorem nm_Li : ∀ a, a < 6 → ∀ b, b < 6 → a ≠ b → (T_Li a).2.1 ≠ (T_Li b).2.1 := by decide +kernel
theorem ty_Li : ∀ k, k < 6 → parseFieldDescriptor (T_Li k).2.2.1 = some (e_Li k) := by decide +kernel
def T_Sp : u_T := fun k => match k with
  | 0 => ("LandRegister$Deed", "number", "I", false)
  | 1 => ("LandRegister$Deed", "recordDay", "I", false)
  | 2 => ("LandRegister$Deed", "factDay", "I", false)
  | 3 => ("LandRegister$Deed", "outcome", "I", false)
  | 4 => ("LandRegister$Split", "parcel", "I", true)
  | _ => ("LandRegister$Split", "area", "I", true)
def e_Sp : Nat → FieldType := fun k => match k with
  | 0 => .int
  | 1 => .int
  | 2 => .int
  | 3 => .int
  | 4 => .int
  | _ => .int
theorem nm_Sp : ∀ a, a < 6 → ∀ b, b < 6 → a ≠ b → (T_Sp a).2.1 ≠ (T_Sp b).2.1 := by decide +kernel
theorem ty_Sp : ∀ k, k < 6 → parseFieldDescriptor (T_Sp k).2.2.1 = some (e_Sp k) := by decide +kernel
def T_Me : u_T := fun k => match k with
  | 0 => ("LandRegister$Deed", "number", "I", false)
  | 1 => ("LandRegister$Deed", "recordDay", "I", false)
  | 2 => ("LandRegister$Deed", "factDay", "I", false)
  | 3 => ("LandRegister$Deed", "outcome", "I", false)
  | 4 => ("LandRegister$Merge", "first", "I", true)
  | _ => ("LandRegister$Merge", "second", "I", true)
def e_Me : Nat → FieldType := fun k => match k with
  | 0 => .int
  | 1 => .int
  | 2 => .int
  | 3 => .int
  | 4 => .int
  | _ => .int
theorem nm_Me : ∀ a, a < 6 → ∀ b, b < 6 → a ≠ b → (T_Me a).2.1 ≠ (T_Me b).2.1 := by decide +kernel
theorem ty_Me : ∀ k, k < 6 → parseFieldDescriptor (T_Me k).2.2.1 = some (e_Me k) := by decide +kernel
def T_M : u_T := fun k => match k with
  | 0 => ("LandRegisterModel", "thrown", "I", false)
  | 1 => ("LandRegisterModel", "today", "I", false)
  | 2 => ("LandRegisterModel", "deeds", "I", false)
  | 3 => ("LandRegisterModel", "kind", "[I", true)
  | 4 => ("LandRegisterModel", "record", "[I", true)
  | 5 => ("LandRegisterModel", "fact", "[I", true)
  | 6 => ("LandRegisterModel", "first", "[I", true)
  | 7 => ("LandRegisterModel", "second", "[I", true)
  | 8 => ("LandRegisterModel", "third", "[I", true)
  | 9 => ("LandRegisterModel", "fourth", "[I", true)
  | 10 => ("LandRegisterModel", "states", "[I", true)
  | 11 => ("LandRegisterModel", "lives", "[Z", true)
  | 12 => ("LandRegisterModel", "areas", "[J", true)
  | 13 => ("LandRegisterModel", "tops", "[J", true)
  | 14 => ("LandRegisterModel", "bottoms", "[J", true)
  | 15 => ("LandRegisterModel", "many", "[I", true)
  | 16 => ("LandRegisterModel", "creditors", "[I", true)
  | 17 => ("LandRegisterModel", "amounts", "[I", true)
  | 18 => ("LandRegisterModel", "warned", "[I", true)
  | 19 => ("LandRegisterModel", "from", "[I", true)
  | _ => ("LandRegisterModel", "also", "[I", true)
def e_M : Nat → FieldType := fun k => match k with
  | 0 => .int
  | 1 => .int
  | 2 => .int
  | 3 => .array .int
  | 4 => .array .int
  | 5 => .array .int
  | 6 => .array .int
  | 7 => .array .int
  | 8 => .array .int
  | 9 => .array .int
  | 10 => .array .int
  | 11 => .array .boolean
  | 12 => .array .long
  | 13 => .array .long
  | 14 => .array .long
  | 15 => .array .int
  | 16 => .array .int
  | 17 => .array .int
  | 18 => .array .int
  | 19 => .array .int
  | _ => .array .int
theorem nm_M : ∀ a, a < 21 → ∀ b, b < 21 → a ≠ b → (T_M a).2.1 ≠ (T_M b).2.1 := by decide +kernel
theorem ty_M : ∀ k, k < 21 → parseFieldDescriptor (T_M k).2.2.1 = some (e_M k) := by decide +kernel
abbrev CL : List vw_C := [("LandRegister", T_LR, 5), ("LandRegister$Parcel", T_P, 9), ("LandRegister$Found", T_Fo, 6), ("LandRegister$Sell", T_Se, 8), ("LandRegister$Pledge", T_Pl, 7), ("LandRegister$Rerank", T_Re, 8), ("LandRegister$Release", T_Rl, 6), ("LandRegister$Caution", T_Ca, 6), ("LandRegister$Lift", T_Li, 6), ("LandRegister$Split", T_Sp, 6), ("LandRegister$Merge", T_Me, 6), ("LandRegisterModel", T_M, 21)]
def TT : List Cond := lw_tbl.filter goodWord
theorem tt_in {c : Cond} (i : Nat) (h : tables_1[i]? = some c) (g : goodWord c = true) : c ∈ TT := List.mem_filter.mpr ⟨List.mem_append_right _ (List.mem_of_getElem? h), g⟩
def nwOk : Cond → Bool
  | .methodLinkNest .. => true
  | .declares .. => true
  | .castable .. => true
  | _ => false
def NWL : List Cond := tables_1.filter nwOk
theorem NWL_ok : ∀ w ∈ NWL, nwOk w = true := fun _ h => (List.mem_filter.mp h).2
theorem nw_in {c : Cond} (i : Nat) (h : tables_1[i]? = some c) (g : nwOk c = true) : c ∈ NWL := List.mem_filter.mpr ⟨List.mem_of_getElem? h, g⟩
/-- the String constants -/
def STRL : List (String × Nat × String) := [("LandRegister", 155, "a fact day is 0 .. today"), ("LandRegister", 157, "a person is 0 .. 7"), ("LandRegister", 162, "an area or amount is 1 .. 1000000000"), ("LandRegister", 181, "40 deeds were filed"), ("LandRegister", 159, "a parcel is 0 .. 79"), ("LandRegister", 166, "the two are the same"), ("LandRegister", 174, "a denominator is 1 .. 1000000"), ("LandRegister", 179, "a numerator is 1 .. the denominator"), ("LandRegister", 164, "a rank is 1 .. 4"), ("LandRegister", 96, "it is the last day"), ("LandRegister", 106, "no such view"), ("LandRegister", 149, "there is no such deed")]
theorem in_LR : ∀ x ∈ u_ws "LandRegister" T_LR 5, x ∈ TT := by
  intro x hx
  obtain ⟨k, hk, rfl⟩ := List.mem_map.mp hx
  have hk := List.mem_range.mp hk
  match k, hk with
  | 0, _ => exact tt_in 103 (by decide +kernel) (by decide +kernel)
  | 1, _ => exact tt_in 105 (by decide +kernel) (by decide +kernel)
  | 2, _ => exact tt_in 107 (by decide +kernel) (by decide +kernel)
  | 3, _ => exact tt_in 109 (by decide +kernel) (by decide +kernel)
  | 4, _ => exact tt_in 111 (by decide +kernel) (by decide +kernel)
  | k + 5, hk => exact absurd hk (by omega)
theorem in_P : ∀ x ∈ u_ws "LandRegister$Parcel" T_P 9, x ∈ TT := by
  intro x hx
  obtain ⟨k, hk, rfl⟩ := List.mem_map.mp hx
  have hk := List.mem_range.mp hk
  match k, hk with
  | 0, _ => exact tt_in 77 (by decide +kernel) (by decide +kernel)
  | 1, _ => exact tt_in 79 (by decide +kernel) (by decide +kernel)
  | 2, _ => exact tt_in 81 (by decide +kernel) (by decide +kernel)
  | 3, _ => exact tt_in 83 (by decide +kernel) (by decide +kernel)
  | 4, _ => exact tt_in 85 (by decide +kernel) (by decide +kernel)
  | 5, _ => exact tt_in 87 (by decide +kernel) (by decide +kernel)
  | 6, _ => exact tt_in 89 (by decide +kernel) (by decide +kernel)
  | 7, _ => exact tt_in 91 (by decide +kernel) (by decide +kernel)
  | 8, _ => exact tt_in 93 (by decide +kernel) (by decide +kernel)
  | k + 9, hk => exact absurd hk (by omega)
theorem in_Fo : ∀ x ∈ u_ws "LandRegister$Found" T_Fo 6, x ∈ TT := by
  intro x hx
  obtain ⟨k, hk, rfl⟩ := List.mem_map.mp hx
  have hk := List.mem_range.mp hk
  match k, hk with
  | 0, _ => exact tt_in 254 (by decide +kernel) (by decide +kernel)
  | 1, _ => exact tt_in 256 (by decide +kernel) (by decide +kernel)
  | 2, _ => exact tt_in 258 (by decide +kernel) (by decide +kernel)
  | 3, _ => exact tt_in 260 (by decide +kernel) (by decide +kernel)
  | 4, _ => exact tt_in 250 (by decide +kernel) (by decide +kernel)
  | 5, _ => exact tt_in 252 (by decide +kernel) (by decide +kernel)
  | k + 6, hk => exact absurd hk (by omega)
theorem in_Se : ∀ x ∈ u_ws "LandRegister$Sell" T_Se 8, x ∈ TT := by
  intro x hx
  obtain ⟨k, hk, rfl⟩ := List.mem_map.mp hx
  have hk := List.mem_range.mp hk
  match k, hk with
  | 0, _ => exact tt_in 462 (by decide +kernel) (by decide +kernel)
  | 1, _ => exact tt_in 463 (by decide +kernel) (by decide +kernel)
  | 2, _ => exact tt_in 464 (by decide +kernel) (by decide +kernel)
  | 3, _ => exact tt_in 465 (by decide +kernel) (by decide +kernel)
  | 4, _ => exact tt_in 454 (by decide +kernel) (by decide +kernel)
  | 5, _ => exact tt_in 456 (by decide +kernel) (by decide +kernel)
  | 6, _ => exact tt_in 458 (by decide +kernel) (by decide +kernel)
  | 7, _ => exact tt_in 460 (by decide +kernel) (by decide +kernel)
  | k + 8, hk => exact absurd hk (by omega)
theorem in_Pl : ∀ x ∈ u_ws "LandRegister$Pledge" T_Pl 7, x ∈ TT := by
  intro x hx
  obtain ⟨k, hk, rfl⟩ := List.mem_map.mp hx
  have hk := List.mem_range.mp hk
  match k, hk with
  | 0, _ => exact tt_in 489 (by decide +kernel) (by decide +kernel)
  | 1, _ => exact tt_in 490 (by decide +kernel) (by decide +kernel)
  | 2, _ => exact tt_in 491 (by decide +kernel) (by decide +kernel)
  | 3, _ => exact tt_in 492 (by decide +kernel) (by decide +kernel)
  | 4, _ => exact tt_in 483 (by decide +kernel) (by decide +kernel)
  | 5, _ => exact tt_in 485 (by decide +kernel) (by decide +kernel)
  | 6, _ => exact tt_in 487 (by decide +kernel) (by decide +kernel)
  | k + 7, hk => exact absurd hk (by omega)
theorem in_Re : ∀ x ∈ u_ws "LandRegister$Rerank" T_Re 8, x ∈ TT := by
  intro x hx
  obtain ⟨k, hk, rfl⟩ := List.mem_map.mp hx
  have hk := List.mem_range.mp hk
  match k, hk with
  | 0, _ => exact tt_in 522 (by decide +kernel) (by decide +kernel)
  | 1, _ => exact tt_in 523 (by decide +kernel) (by decide +kernel)
  | 2, _ => exact tt_in 524 (by decide +kernel) (by decide +kernel)
  | 3, _ => exact tt_in 525 (by decide +kernel) (by decide +kernel)
  | 4, _ => exact tt_in 514 (by decide +kernel) (by decide +kernel)
  | 5, _ => exact tt_in 516 (by decide +kernel) (by decide +kernel)
  | 6, _ => exact tt_in 518 (by decide +kernel) (by decide +kernel)
  | 7, _ => exact tt_in 520 (by decide +kernel) (by decide +kernel)
  | k + 8, hk => exact absurd hk (by omega)
theorem in_Rl : ∀ x ∈ u_ws "LandRegister$Release" T_Rl 6, x ∈ TT := by
  intro x hx
  obtain ⟨k, hk, rfl⟩ := List.mem_map.mp hx
  have hk := List.mem_range.mp hk
  match k, hk with
  | 0, _ => exact tt_in 546 (by decide +kernel) (by decide +kernel)
  | 1, _ => exact tt_in 547 (by decide +kernel) (by decide +kernel)
  | 2, _ => exact tt_in 548 (by decide +kernel) (by decide +kernel)
  | 3, _ => exact tt_in 549 (by decide +kernel) (by decide +kernel)
  | 4, _ => exact tt_in 542 (by decide +kernel) (by decide +kernel)
  | 5, _ => exact tt_in 544 (by decide +kernel) (by decide +kernel)
  | k + 6, hk => exact absurd hk (by omega)
theorem in_Ca : ∀ x ∈ u_ws "LandRegister$Caution" T_Ca 6, x ∈ TT := by
  intro x hx
  obtain ⟨k, hk, rfl⟩ := List.mem_map.mp hx
  have hk := List.mem_range.mp hk
  match k, hk with
  | 0, _ => exact tt_in 570 (by decide +kernel) (by decide +kernel)
  | 1, _ => exact tt_in 571 (by decide +kernel) (by decide +kernel)
  | 2, _ => exact tt_in 572 (by decide +kernel) (by decide +kernel)
  | 3, _ => exact tt_in 573 (by decide +kernel) (by decide +kernel)
  | 4, _ => exact tt_in 566 (by decide +kernel) (by decide +kernel)
  | 5, _ => exact tt_in 568 (by decide +kernel) (by decide +kernel)
  | k + 6, hk => exact absurd hk (by omega)
theorem in_Li : ∀ x ∈ u_ws "LandRegister$Lift" T_Li 6, x ∈ TT := by
  intro x hx
  obtain ⟨k, hk, rfl⟩ := List.mem_map.mp hx
  have hk := List.mem_range.mp hk
  match k, hk with
  | 0, _ => exact tt_in 594 (by decide +kernel) (by decide +kernel)
  | 1, _ => exact tt_in 595 (by decide +kernel) (by decide +kernel)
  | 2, _ => exact tt_in 596 (by decide +kernel) (by decide +kernel)
  | 3, _ => exact tt_in 597 (by decide +kernel) (by decide +kernel)
  | 4, _ => exact tt_in 590 (by decide +kernel) (by decide +kernel)
  | 5, _ => exact tt_in 592 (by decide +kernel) (by decide +kernel)
  | k + 6, hk => exact absurd hk (by omega)
theorem in_Sp : ∀ x ∈ u_ws "LandRegister$Split" T_Sp 6, x ∈ TT := by
  intro x hx
  obtain ⟨k, hk, rfl⟩ := List.mem_map.mp hx
  have hk := List.mem_range.mp hk
  match k, hk with
  | 0, _ => exact tt_in 618 (by decide +kernel) (by decide +kernel)
  | 1, _ => exact tt_in 619 (by decide +kernel) (by decide +kernel)
  | 2, _ => exact tt_in 620 (by decide +kernel) (by decide +kernel)
  | 3, _ => exact tt_in 621 (by decide +kernel) (by decide +kernel)
  | 4, _ => exact tt_in 614 (by decide +kernel) (by decide +kernel)
  | 5, _ => exact tt_in 616 (by decide +kernel) (by decide +kernel)
  | k + 6, hk => exact absurd hk (by omega)
theorem in_Me : ∀ x ∈ u_ws "LandRegister$Merge" T_Me 6, x ∈ TT := by
  intro x hx
  obtain ⟨k, hk, rfl⟩ := List.mem_map.mp hx
  have hk := List.mem_range.mp hk
  match k, hk with
  | 0, _ => exact tt_in 642 (by decide +kernel) (by decide +kernel)
  | 1, _ => exact tt_in 643 (by decide +kernel) (by decide +kernel)
  | 2, _ => exact tt_in 644 (by decide +kernel) (by decide +kernel)
  | 3, _ => exact tt_in 645 (by decide +kernel) (by decide +kernel)
  | 4, _ => exact tt_in 638 (by decide +kernel) (by decide +kernel)
  | 5, _ => exact tt_in 640 (by decide +kernel) (by decide +kernel)
  | k + 6, hk => exact absurd hk (by omega)
theorem in_M : ∀ x ∈ u_ws "LandRegisterModel" T_M 21, x ∈ TT := by
  intro x hx
  obtain ⟨k, hk, rfl⟩ := List.mem_map.mp hx
  have hk := List.mem_range.mp hk
  match k, hk with
  | 0, _ => exact tt_in 826 (by decide +kernel) (by decide +kernel)
  | 1, _ => exact tt_in 828 (by decide +kernel) (by decide +kernel)
  | 2, _ => exact tt_in 830 (by decide +kernel) (by decide +kernel)
  | 3, _ => exact tt_in 832 (by decide +kernel) (by decide +kernel)
  | 4, _ => exact tt_in 834 (by decide +kernel) (by decide +kernel)
  | 5, _ => exact tt_in 836 (by decide +kernel) (by decide +kernel)
  | 6, _ => exact tt_in 838 (by decide +kernel) (by decide +kernel)
  | 7, _ => exact tt_in 840 (by decide +kernel) (by decide +kernel)
  | 8, _ => exact tt_in 842 (by decide +kernel) (by decide +kernel)
  | 9, _ => exact tt_in 844 (by decide +kernel) (by decide +kernel)
  | 10, _ => exact tt_in 846 (by decide +kernel) (by decide +kernel)
  | 11, _ => exact tt_in 848 (by decide +kernel) (by decide +kernel)
  | 12, _ => exact tt_in 850 (by decide +kernel) (by decide +kernel)
  | 13, _ => exact tt_in 852 (by decide +kernel) (by decide +kernel)
  | 14, _ => exact tt_in 854 (by decide +kernel) (by decide +kernel)
  | 15, _ => exact tt_in 856 (by decide +kernel) (by decide +kernel)
  | 16, _ => exact tt_in 858 (by decide +kernel) (by decide +kernel)
  | 17, _ => exact tt_in 860 (by decide +kernel) (by decide +kernel)
  | 18, _ => exact tt_in 862 (by decide +kernel) (by decide +kernel)
  | 19, _ => exact tt_in 864 (by decide +kernel) (by decide +kernel)
  | 20, _ => exact tt_in 866 (by decide +kernel) (by decide +kernel)
  | k + 21, hk => exact absurd hk (by omega)
def HdOk (hd : Cond) (y : MethodName) (maxL : Nat) : Prop := (∃ b ret, hd = .code y b maxL ret) ∨ ∃ b ret hh, hd = .codeWith y b maxL ret hh
def y_LR_init : MethodName := ⟨"LandRegister", "<init>", "()V"⟩
abbrev b_LR_init : ByteArray := prog_1_method_1_code
abbrev hd_LR_init : Cond := .code y_LR_init b_LR_init 2 none
set_option maxRecDepth 100000 in
theorem hdT_LR_init : hd_LR_init ∈ TT := tt_in 27 rfl rfl
theorem np_LR_init : (parseMethodDescriptor y_LR_init.desc).map (fun d => d.parameters.length) = some 0 := by decide +kernel
theorem hdO_LR_init : HdOk hd_LR_init y_LR_init 2 := Or.inl ⟨_, _, rfl⟩
def y_LR_found : MethodName := ⟨"LandRegister", "found", "(III)I"⟩
abbrev b_LR_found : ByteArray := prog_1_method_2_code
abbrev hd_LR_found : Cond := .code y_LR_found b_LR_found 4 (some .int)
set_option maxRecDepth 100000 in
theorem hdT_LR_found : hd_LR_found ∈ TT := tt_in 126 rfl rfl
theorem np_LR_found : (parseMethodDescriptor y_LR_found.desc).map (fun d => d.parameters.length) = some 3 := by decide +kernel
theorem hdO_LR_found : HdOk hd_LR_found y_LR_found 4 := Or.inl ⟨_, _, rfl⟩
def y_LR_sell : MethodName := ⟨"LandRegister", "sell", "(IIIIJ)I"⟩
abbrev b_LR_sell : ByteArray := prog_1_method_3_code
abbrev hd_LR_sell : Cond := .code y_LR_sell b_LR_sell 7 (some .int)
set_option maxRecDepth 100000 in
theorem hdT_LR_sell : hd_LR_sell ∈ TT := tt_in 430 rfl rfl
theorem np_LR_sell : (parseMethodDescriptor y_LR_sell.desc).map (fun d => d.parameters.length) = some 5 := by decide +kernel
theorem hdO_LR_sell : HdOk hd_LR_sell y_LR_sell 7 := Or.inl ⟨_, _, rfl⟩
def y_LR_pledge : MethodName := ⟨"LandRegister", "pledge", "(IIII)I"⟩
abbrev b_LR_pledge : ByteArray := prog_1_method_4_code
abbrev hd_LR_pledge : Cond := .code y_LR_pledge b_LR_pledge 5 (some .int)
set_option maxRecDepth 100000 in
theorem hdT_LR_pledge : hd_LR_pledge ∈ TT := tt_in 473 rfl rfl
theorem np_LR_pledge : (parseMethodDescriptor y_LR_pledge.desc).map (fun d => d.parameters.length) = some 4 := by decide +kernel
theorem hdO_LR_pledge : HdOk hd_LR_pledge y_LR_pledge 5 := Or.inl ⟨_, _, rfl⟩
def y_LR_rerank : MethodName := ⟨"LandRegister", "rerank", "(IIIII)I"⟩
abbrev b_LR_rerank : ByteArray := prog_1_method_5_code
abbrev hd_LR_rerank : Cond := .code y_LR_rerank b_LR_rerank 6 (some .int)
set_option maxRecDepth 100000 in
theorem hdT_LR_rerank : hd_LR_rerank ∈ TT := tt_in 500 rfl rfl
theorem np_LR_rerank : (parseMethodDescriptor y_LR_rerank.desc).map (fun d => d.parameters.length) = some 5 := by decide +kernel
theorem hdO_LR_rerank : HdOk hd_LR_rerank y_LR_rerank 6 := Or.inl ⟨_, _, rfl⟩
def y_LR_release : MethodName := ⟨"LandRegister", "release", "(III)I"⟩
abbrev b_LR_release : ByteArray := prog_1_method_6_code
abbrev hd_LR_release : Cond := .code y_LR_release b_LR_release 4 (some .int)
set_option maxRecDepth 100000 in
theorem hdT_LR_release : hd_LR_release ∈ TT := tt_in 533 rfl rfl
theorem np_LR_release : (parseMethodDescriptor y_LR_release.desc).map (fun d => d.parameters.length) = some 3 := by decide +kernel
theorem hdO_LR_release : HdOk hd_LR_release y_LR_release 4 := Or.inl ⟨_, _, rfl⟩
def y_LR_caution : MethodName := ⟨"LandRegister", "caution", "(III)I"⟩
abbrev b_LR_caution : ByteArray := prog_1_method_7_code
abbrev hd_LR_caution : Cond := .code y_LR_caution b_LR_caution 4 (some .int)
set_option maxRecDepth 100000 in
theorem hdT_LR_caution : hd_LR_caution ∈ TT := tt_in 557 rfl rfl
theorem np_LR_caution : (parseMethodDescriptor y_LR_caution.desc).map (fun d => d.parameters.length) = some 3 := by decide +kernel
theorem hdO_LR_caution : HdOk hd_LR_caution y_LR_caution 4 := Or.inl ⟨_, _, rfl⟩
def y_LR_lift : MethodName := ⟨"LandRegister", "lift", "(III)I"⟩
abbrev b_LR_lift : ByteArray := prog_1_method_8_code
abbrev hd_LR_lift : Cond := .code y_LR_lift b_LR_lift 4 (some .int)
set_option maxRecDepth 100000 in
theorem hdT_LR_lift : hd_LR_lift ∈ TT := tt_in 581 rfl rfl
theorem np_LR_lift : (parseMethodDescriptor y_LR_lift.desc).map (fun d => d.parameters.length) = some 3 := by decide +kernel
theorem hdO_LR_lift : HdOk hd_LR_lift y_LR_lift 4 := Or.inl ⟨_, _, rfl⟩
def y_LR_split : MethodName := ⟨"LandRegister", "split", "(III)I"⟩
abbrev b_LR_split : ByteArray := prog_1_method_9_code
abbrev hd_LR_split : Cond := .code y_LR_split b_LR_split 4 (some .int)
set_option maxRecDepth 100000 in
theorem hdT_LR_split : hd_LR_split ∈ TT := tt_in 605 rfl rfl
theorem np_LR_split : (parseMethodDescriptor y_LR_split.desc).map (fun d => d.parameters.length) = some 3 := by decide +kernel
theorem hdO_LR_split : HdOk hd_LR_split y_LR_split 4 := Or.inl ⟨_, _, rfl⟩
def y_LR_merge : MethodName := ⟨"LandRegister", "merge", "(III)I"⟩
abbrev b_LR_merge : ByteArray := prog_1_method_10_code
abbrev hd_LR_merge : Cond := .code y_LR_merge b_LR_merge 4 (some .int)
set_option maxRecDepth 100000 in
theorem hdT_LR_merge : hd_LR_merge ∈ TT := tt_in 629 rfl rfl
theorem np_LR_merge : (parseMethodDescriptor y_LR_merge.desc).map (fun d => d.parameters.length) = some 3 := by decide +kernel
theorem hdO_LR_merge : HdOk hd_LR_merge y_LR_merge 4 := Or.inl ⟨_, _, rfl⟩
def y_LR_day : MethodName := ⟨"LandRegister", "day", "()I"⟩
abbrev b_LR_day : ByteArray := prog_1_method_11_code
abbrev hd_LR_day : Cond := .code y_LR_day b_LR_day 1 (some .int)
set_option maxRecDepth 100000 in
theorem hdT_LR_day : hd_LR_day ∈ TT := tt_in 653 rfl rfl
theorem np_LR_day : (parseMethodDescriptor y_LR_day.desc).map (fun d => d.parameters.length) = some 0 := by decide +kernel
theorem hdO_LR_day : HdOk hd_LR_day y_LR_day 1 := Or.inl ⟨_, _, rfl⟩
def y_LR_view : MethodName := ⟨"LandRegister", "view", "(II)I"⟩
abbrev b_LR_view : ByteArray := prog_1_method_12_code
abbrev hd_LR_view : Cond := .code y_LR_view b_LR_view 5 (some .int)
set_option maxRecDepth 100000 in
theorem hdT_LR_view : hd_LR_view ∈ TT := tt_in 661 rfl rfl
theorem np_LR_view : (parseMethodDescriptor y_LR_view.desc).map (fun d => d.parameters.length) = some 2 := by decide +kernel
theorem hdO_LR_view : HdOk hd_LR_view y_LR_view 5 := Or.inl ⟨_, _, rfl⟩
def y_LR_parcel : MethodName := ⟨"LandRegister", "parcel", "(I)I"⟩
abbrev b_LR_parcel : ByteArray := prog_1_method_13_code
abbrev hd_LR_parcel : Cond := .code y_LR_parcel b_LR_parcel 4 (some .int)
set_option maxRecDepth 100000 in
theorem hdT_LR_parcel : hd_LR_parcel ∈ TT := tt_in 117 rfl rfl
theorem np_LR_parcel : (parseMethodDescriptor y_LR_parcel.desc).map (fun d => d.parameters.length) = some 1 := by decide +kernel
theorem hdO_LR_parcel : HdOk hd_LR_parcel y_LR_parcel 4 := Or.inl ⟨_, _, rfl⟩
def y_LR_area : MethodName := ⟨"LandRegister", "area", "(I)J"⟩
abbrev b_LR_area : ByteArray := prog_1_method_14_code
abbrev hd_LR_area : Cond := .code y_LR_area b_LR_area 3 (some .long)
set_option maxRecDepth 100000 in
theorem hdT_LR_area : hd_LR_area ∈ TT := tt_in 669 rfl rfl
theorem np_LR_area : (parseMethodDescriptor y_LR_area.desc).map (fun d => d.parameters.length) = some 1 := by decide +kernel
theorem hdO_LR_area : HdOk hd_LR_area y_LR_area 3 := Or.inl ⟨_, _, rfl⟩
def y_LR_share : MethodName := ⟨"LandRegister", "share", "(II)J"⟩
abbrev b_LR_share : ByteArray := prog_1_method_15_code
abbrev hd_LR_share : Cond := .code y_LR_share b_LR_share 4 (some .long)
set_option maxRecDepth 100000 in
theorem hdT_LR_share : hd_LR_share ∈ TT := tt_in 676 rfl rfl
theorem np_LR_share : (parseMethodDescriptor y_LR_share.desc).map (fun d => d.parameters.length) = some 2 := by decide +kernel
theorem hdO_LR_share : HdOk hd_LR_share y_LR_share 4 := Or.inl ⟨_, _, rfl⟩
def y_LR_mortgage : MethodName := ⟨"LandRegister", "mortgage", "(III)I"⟩
abbrev b_LR_mortgage : ByteArray := prog_1_method_16_code
abbrev hd_LR_mortgage : Cond := .code y_LR_mortgage b_LR_mortgage 5 (some .int)
set_option maxRecDepth 100000 in
theorem hdT_LR_mortgage : hd_LR_mortgage ∈ TT := tt_in 683 rfl rfl
theorem np_LR_mortgage : (parseMethodDescriptor y_LR_mortgage.desc).map (fun d => d.parameters.length) = some 3 := by decide +kernel
theorem hdO_LR_mortgage : HdOk hd_LR_mortgage y_LR_mortgage 5 := Or.inl ⟨_, _, rfl⟩
def y_LR_cautions : MethodName := ⟨"LandRegister", "cautions", "(I)I"⟩
abbrev b_LR_cautions : ByteArray := prog_1_method_17_code
abbrev hd_LR_cautions : Cond := .code y_LR_cautions b_LR_cautions 3 (some .int)
set_option maxRecDepth 100000 in
theorem hdT_LR_cautions : hd_LR_cautions ∈ TT := tt_in 690 rfl rfl
theorem np_LR_cautions : (parseMethodDescriptor y_LR_cautions.desc).map (fun d => d.parameters.length) = some 1 := by decide +kernel
theorem hdO_LR_cautions : HdOk hd_LR_cautions y_LR_cautions 3 := Or.inl ⟨_, _, rfl⟩
def y_LR_origin : MethodName := ⟨"LandRegister", "origin", "(II)I"⟩
abbrev b_LR_origin : ByteArray := prog_1_method_18_code
abbrev hd_LR_origin : Cond := .code y_LR_origin b_LR_origin 4 (some .int)
set_option maxRecDepth 100000 in
theorem hdT_LR_origin : hd_LR_origin ∈ TT := tt_in 697 rfl rfl
theorem np_LR_origin : (parseMethodDescriptor y_LR_origin.desc).map (fun d => d.parameters.length) = some 2 := by decide +kernel
theorem hdO_LR_origin : HdOk hd_LR_origin y_LR_origin 4 := Or.inl ⟨_, _, rfl⟩
def y_LR_holding : MethodName := ⟨"LandRegister", "holding", "(II)I"⟩
abbrev b_LR_holding : ByteArray := prog_1_method_19_code
abbrev hd_LR_holding : Cond := .code y_LR_holding b_LR_holding 5 (some .int)
set_option maxRecDepth 100000 in
theorem hdT_LR_holding : hd_LR_holding ∈ TT := tt_in 704 rfl rfl
theorem np_LR_holding : (parseMethodDescriptor y_LR_holding.desc).map (fun d => d.parameters.length) = some 2 := by decide +kernel
theorem hdO_LR_holding : HdOk hd_LR_holding y_LR_holding 5 := Or.inl ⟨_, _, rfl⟩
def y_LR_owed : MethodName := ⟨"LandRegister", "owed", "(I)J"⟩
abbrev b_LR_owed : ByteArray := prog_1_method_20_code
abbrev hd_LR_owed : Cond := .code y_LR_owed b_LR_owed 5 (some .long)
set_option maxRecDepth 100000 in
theorem hdT_LR_owed : hd_LR_owed ∈ TT := tt_in 711 rfl rfl
theorem np_LR_owed : (parseMethodDescriptor y_LR_owed.desc).map (fun d => d.parameters.length) = some 1 := by decide +kernel
theorem hdO_LR_owed : HdOk hd_LR_owed y_LR_owed 5 := Or.inl ⟨_, _, rfl⟩
def y_LR_state : MethodName := ⟨"LandRegister", "state", "(I)I"⟩
abbrev b_LR_state : ByteArray := prog_1_method_21_code
abbrev hd_LR_state : Cond := .code y_LR_state b_LR_state 2 (some .int)
set_option maxRecDepth 100000 in
theorem hdT_LR_state : hd_LR_state ∈ TT := tt_in 723 rfl rfl
theorem np_LR_state : (parseMethodDescriptor y_LR_state.desc).map (fun d => d.parameters.length) = some 1 := by decide +kernel
theorem hdO_LR_state : HdOk hd_LR_state y_LR_state 2 := Or.inl ⟨_, _, rfl⟩
def y_LR_requireFactDay : MethodName := ⟨"LandRegister", "requireFactDay", "(I)V"⟩
abbrev b_LR_requireFactDay : ByteArray := prog_1_method_22_code
abbrev hd_LR_requireFactDay : Cond := .code y_LR_requireFactDay b_LR_requireFactDay 2 none
set_option maxRecDepth 100000 in
theorem hdT_LR_requireFactDay : hd_LR_requireFactDay ∈ TT := tt_in 130 rfl rfl
theorem np_LR_requireFactDay : (parseMethodDescriptor y_LR_requireFactDay.desc).map (fun d => d.parameters.length) = some 1 := by decide +kernel
theorem hdO_LR_requireFactDay : HdOk hd_LR_requireFactDay y_LR_requireFactDay 2 := Or.inl ⟨_, _, rfl⟩
def y_LR_requirePerson : MethodName := ⟨"LandRegister", "requirePerson", "(I)V"⟩
abbrev b_LR_requirePerson : ByteArray := prog_1_method_23_code
abbrev hd_LR_requirePerson : Cond := .code y_LR_requirePerson b_LR_requirePerson 1 none
set_option maxRecDepth 100000 in
theorem hdT_LR_requirePerson : hd_LR_requirePerson ∈ TT := tt_in 201 rfl rfl
theorem np_LR_requirePerson : (parseMethodDescriptor y_LR_requirePerson.desc).map (fun d => d.parameters.length) = some 1 := by decide +kernel
theorem hdO_LR_requirePerson : HdOk hd_LR_requirePerson y_LR_requirePerson 1 := Or.inl ⟨_, _, rfl⟩
def y_LR_requireParcel : MethodName := ⟨"LandRegister", "requireParcel", "(I)V"⟩
abbrev b_LR_requireParcel : ByteArray := prog_1_method_24_code
abbrev hd_LR_requireParcel : Cond := .code y_LR_requireParcel b_LR_requireParcel 1 none
set_option maxRecDepth 100000 in
theorem hdT_LR_requireParcel : hd_LR_requireParcel ∈ TT := tt_in 433 rfl rfl
theorem np_LR_requireParcel : (parseMethodDescriptor y_LR_requireParcel.desc).map (fun d => d.parameters.length) = some 1 := by decide +kernel
theorem hdO_LR_requireParcel : HdOk hd_LR_requireParcel y_LR_requireParcel 1 := Or.inl ⟨_, _, rfl⟩
def y_LR_requireUnits : MethodName := ⟨"LandRegister", "requireUnits", "(I)V"⟩
abbrev b_LR_requireUnits : ByteArray := prog_1_method_25_code
abbrev hd_LR_requireUnits : Cond := .code y_LR_requireUnits b_LR_requireUnits 1 none
set_option maxRecDepth 100000 in
theorem hdT_LR_requireUnits : hd_LR_requireUnits ∈ TT := tt_in 205 rfl rfl
theorem np_LR_requireUnits : (parseMethodDescriptor y_LR_requireUnits.desc).map (fun d => d.parameters.length) = some 1 := by decide +kernel
theorem hdO_LR_requireUnits : HdOk hd_LR_requireUnits y_LR_requireUnits 1 := Or.inl ⟨_, _, rfl⟩
def y_LR_requireRank : MethodName := ⟨"LandRegister", "requireRank", "(I)V"⟩
abbrev b_LR_requireRank : ByteArray := prog_1_method_26_code
abbrev hd_LR_requireRank : Cond := .code y_LR_requireRank b_LR_requireRank 1 none
set_option maxRecDepth 100000 in
theorem hdT_LR_requireRank : hd_LR_requireRank ∈ TT := tt_in 503 rfl rfl
theorem np_LR_requireRank : (parseMethodDescriptor y_LR_requireRank.desc).map (fun d => d.parameters.length) = some 1 := by decide +kernel
theorem hdO_LR_requireRank : HdOk hd_LR_requireRank y_LR_requireRank 1 := Or.inl ⟨_, _, rfl⟩
def y_LR_requireDifferent : MethodName := ⟨"LandRegister", "requireDifferent", "(II)V"⟩
abbrev b_LR_requireDifferent : ByteArray := prog_1_method_27_code
abbrev hd_LR_requireDifferent : Cond := .code y_LR_requireDifferent b_LR_requireDifferent 2 none
set_option maxRecDepth 100000 in
theorem hdT_LR_requireDifferent : hd_LR_requireDifferent ∈ TT := tt_in 437 rfl rfl
theorem np_LR_requireDifferent : (parseMethodDescriptor y_LR_requireDifferent.desc).map (fun d => d.parameters.length) = some 2 := by decide +kernel
theorem hdO_LR_requireDifferent : HdOk hd_LR_requireDifferent y_LR_requireDifferent 2 := Or.inl ⟨_, _, rfl⟩
def y_LR_requireFraction : MethodName := ⟨"LandRegister", "requireFraction", "(J)V"⟩
abbrev b_LR_requireFraction : ByteArray := prog_1_method_28_code
abbrev hd_LR_requireFraction : Cond := .code y_LR_requireFraction b_LR_requireFraction 4 none
set_option maxRecDepth 100000 in
theorem hdT_LR_requireFraction : hd_LR_requireFraction ∈ TT := tt_in 441 rfl rfl
theorem np_LR_requireFraction : (parseMethodDescriptor y_LR_requireFraction.desc).map (fun d => d.parameters.length) = some 1 := by decide +kernel
theorem hdO_LR_requireFraction : HdOk hd_LR_requireFraction y_LR_requireFraction 4 := Or.inl ⟨_, _, rfl⟩
def y_LR_requireFreeNumber : MethodName := ⟨"LandRegister", "requireFreeNumber", "()V"⟩
abbrev b_LR_requireFreeNumber : ByteArray := prog_1_method_29_code
abbrev hd_LR_requireFreeNumber : Cond := .code y_LR_requireFreeNumber b_LR_requireFreeNumber 1 none
set_option maxRecDepth 100000 in
theorem hdT_LR_requireFreeNumber : hd_LR_requireFreeNumber ∈ TT := tt_in 211 rfl rfl
theorem np_LR_requireFreeNumber : (parseMethodDescriptor y_LR_requireFreeNumber.desc).map (fun d => d.parameters.length) = some 0 := by decide +kernel
theorem hdO_LR_requireFreeNumber : HdOk hd_LR_requireFreeNumber y_LR_requireFreeNumber 1 := Or.inl ⟨_, _, rfl⟩
def y_LR_file : MethodName := ⟨"LandRegister", "file", "(ILLandRegister$Deed;)I"⟩
abbrev b_LR_file : ByteArray := prog_1_method_30_code
abbrev hd_LR_file : Cond := .code y_LR_file b_LR_file 5 (some .int)
set_option maxRecDepth 100000 in
theorem hdT_LR_file : hd_LR_file ∈ TT := tt_in 266 rfl rfl
theorem np_LR_file : (parseMethodDescriptor y_LR_file.desc).map (fun d => d.parameters.length) = some 2 := by decide +kernel
theorem hdO_LR_file : HdOk hd_LR_file y_LR_file 5 := Or.inl ⟨_, _, rfl⟩
def y_LR_lookAt : MethodName := ⟨"LandRegister", "lookAt", "(II)V"⟩
abbrev b_LR_lookAt : ByteArray := prog_1_method_31_code
abbrev hd_LR_lookAt : Cond := .code y_LR_lookAt b_LR_lookAt 5 none
set_option maxRecDepth 100000 in
theorem hdT_LR_lookAt : hd_LR_lookAt ∈ TT := tt_in 270 rfl rfl
theorem np_LR_lookAt : (parseMethodDescriptor y_LR_lookAt.desc).map (fun d => d.parameters.length) = some 2 := by decide +kernel
theorem hdO_LR_lookAt : HdOk hd_LR_lookAt y_LR_lookAt 5 := Or.inl ⟨_, _, rfl⟩
def y_LR_numerator : MethodName := ⟨"LandRegister", "numerator", "(J)J"⟩
abbrev b_LR_numerator : ByteArray := prog_1_method_32_code
abbrev hd_LR_numerator : Cond := .code y_LR_numerator b_LR_numerator 2 (some .long)
set_option maxRecDepth 100000 in
theorem hdT_LR_numerator : hd_LR_numerator ∈ TT := tt_in 338 rfl rfl
theorem np_LR_numerator : (parseMethodDescriptor y_LR_numerator.desc).map (fun d => d.parameters.length) = some 1 := by decide +kernel
theorem hdO_LR_numerator : HdOk hd_LR_numerator y_LR_numerator 2 := Or.inl ⟨_, _, rfl⟩
def y_LR_denominator : MethodName := ⟨"LandRegister", "denominator", "(J)J"⟩
abbrev b_LR_denominator : ByteArray := prog_1_method_33_code
abbrev hd_LR_denominator : Cond := .code y_LR_denominator b_LR_denominator 2 (some .long)
set_option maxRecDepth 100000 in
theorem hdT_LR_denominator : hd_LR_denominator ∈ TT := tt_in 344 rfl rfl
theorem np_LR_denominator : (parseMethodDescriptor y_LR_denominator.desc).map (fun d => d.parameters.length) = some 1 := by decide +kernel
theorem hdO_LR_denominator : HdOk hd_LR_denominator y_LR_denominator 2 := Or.inl ⟨_, _, rfl⟩
def y_LR_parts : MethodName := ⟨"LandRegister", "parts", "(J)J"⟩
abbrev b_LR_parts : ByteArray := prog_1_method_34_code
abbrev hd_LR_parts : Cond := .code y_LR_parts b_LR_parts 2 (some .long)
set_option maxRecDepth 100000 in
theorem hdT_LR_parts : hd_LR_parts ∈ TT := tt_in 341 rfl rfl
theorem np_LR_parts : (parseMethodDescriptor y_LR_parts.desc).map (fun d => d.parameters.length) = some 1 := by decide +kernel
theorem hdO_LR_parts : HdOk hd_LR_parts y_LR_parts 2 := Or.inl ⟨_, _, rfl⟩
def y_LR_isLess : MethodName := ⟨"LandRegister", "isLess", "(JJ)Z"⟩
abbrev b_LR_isLess : ByteArray := prog_1_method_35_code
abbrev hd_LR_isLess : Cond := .code y_LR_isLess b_LR_isLess 4 (some .boolean)
set_option maxRecDepth 100000 in
theorem hdT_LR_isLess : hd_LR_isLess ∈ TT := tt_in 335 rfl rfl
theorem np_LR_isLess : (parseMethodDescriptor y_LR_isLess.desc).map (fun d => d.parameters.length) = some 2 := by decide +kernel
theorem hdO_LR_isLess : HdOk hd_LR_isLess y_LR_isLess 4 := Or.inl ⟨_, _, rfl⟩
def y_LR_plus : MethodName := ⟨"LandRegister", "plus", "(JJ)J"⟩
abbrev b_LR_plus : ByteArray := prog_1_method_36_code
abbrev hd_LR_plus : Cond := .code y_LR_plus b_LR_plus 4 (some .long)
set_option maxRecDepth 100000 in
theorem hdT_LR_plus : hd_LR_plus ∈ TT := tt_in 363 rfl rfl
theorem np_LR_plus : (parseMethodDescriptor y_LR_plus.desc).map (fun d => d.parameters.length) = some 2 := by decide +kernel
theorem hdO_LR_plus : HdOk hd_LR_plus y_LR_plus 4 := Or.inl ⟨_, _, rfl⟩
def y_LR_minus : MethodName := ⟨"LandRegister", "minus", "(JJ)J"⟩
abbrev b_LR_minus : ByteArray := prog_1_method_37_code
abbrev hd_LR_minus : Cond := .code y_LR_minus b_LR_minus 4 (some .long)
set_option maxRecDepth 100000 in
theorem hdT_LR_minus : hd_LR_minus ∈ TT := tt_in 351 rfl rfl
theorem np_LR_minus : (parseMethodDescriptor y_LR_minus.desc).map (fun d => d.parameters.length) = some 2 := by decide +kernel
theorem hdO_LR_minus : HdOk hd_LR_minus y_LR_minus 4 := Or.inl ⟨_, _, rfl⟩
def y_LR_lowest : MethodName := ⟨"LandRegister", "lowest", "(JJ)J"⟩
abbrev b_LR_lowest : ByteArray := prog_1_method_38_code
abbrev hd_LR_lowest : Cond := .code y_LR_lowest b_LR_lowest 6 (some .long)
set_option maxRecDepth 100000 in
theorem hdT_LR_lowest : hd_LR_lowest ∈ TT := tt_in 354 rfl rfl
theorem np_LR_lowest : (parseMethodDescriptor y_LR_lowest.desc).map (fun d => d.parameters.length) = some 2 := by decide +kernel
theorem hdO_LR_lowest : HdOk hd_LR_lowest y_LR_lowest 6 := Or.inl ⟨_, _, rfl⟩
def y_LR_commonDivisor : MethodName := ⟨"LandRegister", "commonDivisor", "(JJ)J"⟩
abbrev b_LR_commonDivisor : ByteArray := prog_1_method_39_code
abbrev hd_LR_commonDivisor : Cond := .code y_LR_commonDivisor b_LR_commonDivisor 11 (some .long)
set_option maxRecDepth 100000 in
theorem hdT_LR_commonDivisor : hd_LR_commonDivisor ∈ TT := tt_in 357 rfl rfl
theorem np_LR_commonDivisor : (parseMethodDescriptor y_LR_commonDivisor.desc).map (fun d => d.parameters.length) = some 2 := by decide +kernel
theorem hdO_LR_commonDivisor : HdOk hd_LR_commonDivisor y_LR_commonDivisor 11 := Or.inl ⟨_, _, rfl⟩
def y_P_init : MethodName := ⟨"LandRegister$Parcel", "<init>", "()V"⟩
abbrev b_P_init : ByteArray := prog_7_method_1_code
abbrev hd_P_init : Cond := .code y_P_init b_P_init 1 none
set_option maxRecDepth 100000 in
theorem hdT_P_init : hd_P_init ∈ TT := tt_in 38 rfl rfl
theorem np_P_init : (parseMethodDescriptor y_P_init.desc).map (fun d => d.parameters.length) = some 0 := by decide +kernel
theorem hdO_P_init : HdOk hd_P_init y_P_init 1 := Or.inl ⟨_, _, rfl⟩
def y_P_unmake : MethodName := ⟨"LandRegister$Parcel", "unmake", "()V"⟩
abbrev b_P_unmake : ByteArray := prog_7_method_2_code
abbrev hd_P_unmake : Cond := .code y_P_unmake b_P_unmake 1 none
set_option maxRecDepth 100000 in
theorem hdT_P_unmake : hd_P_unmake ∈ TT := tt_in 274 rfl rfl
theorem np_P_unmake : (parseMethodDescriptor y_P_unmake.desc).map (fun d => d.parameters.length) = some 0 := by decide +kernel
theorem hdO_P_unmake : HdOk hd_P_unmake y_P_unmake 1 := Or.inl ⟨_, _, rfl⟩
def y_P_makeFor : MethodName := ⟨"LandRegister$Parcel", "makeFor", "(IJ)V"⟩
abbrev b_P_makeFor : ByteArray := prog_7_method_3_code
abbrev hd_P_makeFor : Cond := .code y_P_makeFor b_P_makeFor 4 none
set_option maxRecDepth 100000 in
theorem hdT_P_makeFor : hd_P_makeFor ∈ TT := tt_in 380 rfl rfl
theorem np_P_makeFor : (parseMethodDescriptor y_P_makeFor.desc).map (fun d => d.parameters.length) = some 2 := by decide +kernel
theorem hdO_P_makeFor : HdOk hd_P_makeFor y_P_makeFor 4 := Or.inl ⟨_, _, rfl⟩
def y_P_makeFrom : MethodName := ⟨"LandRegister$Parcel", "makeFrom", "(LLandRegister$Parcel;J)V"⟩
abbrev b_P_makeFrom : ByteArray := prog_7_method_4_code
abbrev hd_P_makeFrom : Cond := .code y_P_makeFrom b_P_makeFrom 4 none
set_option maxRecDepth 100000 in
theorem hdT_P_makeFrom : hd_P_makeFrom ∈ TT := tt_in 394 rfl rfl
theorem np_P_makeFrom : (parseMethodDescriptor y_P_makeFrom.desc).map (fun d => d.parameters.length) = some 2 := by decide +kernel
theorem hdO_P_makeFrom : HdOk hd_P_makeFrom y_P_makeFrom 4 := Or.inl ⟨_, _, rfl⟩
def y_P_closedness : MethodName := ⟨"LandRegister$Parcel", "closedness", "()I"⟩
abbrev b_P_closedness : ByteArray := prog_7_method_5_code
abbrev hd_P_closedness : Cond := .code y_P_closedness b_P_closedness 1 (some .int)
set_option maxRecDepth 100000 in
theorem hdT_P_closedness : hd_P_closedness ∈ TT := tt_in 309 rfl rfl
theorem np_P_closedness : (parseMethodDescriptor y_P_closedness.desc).map (fun d => d.parameters.length) = some 0 := by decide +kernel
theorem hdO_P_closedness : HdOk hd_P_closedness y_P_closedness 1 := Or.inl ⟨_, _, rfl⟩
def y_P_hasCautionOf : MethodName := ⟨"LandRegister$Parcel", "hasCautionOf", "(I)Z"⟩
abbrev b_P_hasCautionOf : ByteArray := prog_7_method_6_code
abbrev hd_P_hasCautionOf : Cond := .code y_P_hasCautionOf b_P_hasCautionOf 2 (some .boolean)
set_option maxRecDepth 100000 in
theorem hdT_P_hasCautionOf : hd_P_hasCautionOf ∈ TT := tt_in 284 rfl rfl
theorem np_P_hasCautionOf : (parseMethodDescriptor y_P_hasCautionOf.desc).map (fun d => d.parameters.length) = some 1 := by decide +kernel
theorem hdO_P_hasCautionOf : HdOk hd_P_hasCautionOf y_P_hasCautionOf 2 := Or.inl ⟨_, _, rfl⟩
def y_P_addMortgage : MethodName := ⟨"LandRegister$Parcel", "addMortgage", "(III)V"⟩
abbrev b_P_addMortgage : ByteArray := prog_7_method_7_code
abbrev hd_P_addMortgage : Cond := .code y_P_addMortgage b_P_addMortgage 5 none
set_option maxRecDepth 100000 in
theorem hdT_P_addMortgage : hd_P_addMortgage ∈ TT := tt_in 404 rfl rfl
theorem np_P_addMortgage : (parseMethodDescriptor y_P_addMortgage.desc).map (fun d => d.parameters.length) = some 3 := by decide +kernel
theorem hdO_P_addMortgage : HdOk hd_P_addMortgage y_P_addMortgage 5 := Or.inl ⟨_, _, rfl⟩
def y_P_dropMortgage : MethodName := ⟨"LandRegister$Parcel", "dropMortgage", "(I)V"⟩
abbrev b_P_dropMortgage : ByteArray := prog_7_method_8_code
abbrev hd_P_dropMortgage : Cond := .code y_P_dropMortgage b_P_dropMortgage 3 none
set_option maxRecDepth 100000 in
theorem hdT_P_dropMortgage : hd_P_dropMortgage ∈ TT := tt_in 411 rfl rfl
theorem np_P_dropMortgage : (parseMethodDescriptor y_P_dropMortgage.desc).map (fun d => d.parameters.length) = some 1 := by decide +kernel
theorem hdO_P_dropMortgage : HdOk hd_P_dropMortgage y_P_dropMortgage 3 := Or.inl ⟨_, _, rfl⟩
def y_P_creditorsOf : MethodName := ⟨"LandRegister$Parcel", "creditorsOf", "(II)I"⟩
abbrev b_P_creditorsOf : ByteArray := prog_7_method_9_code
abbrev hd_P_creditorsOf : Cond := .code y_P_creditorsOf b_P_creditorsOf 5 (some .int)
set_option maxRecDepth 100000 in
theorem hdT_P_creditorsOf : hd_P_creditorsOf ∈ TT := tt_in 328 rfl rfl
theorem np_P_creditorsOf : (parseMethodDescriptor y_P_creditorsOf.desc).map (fun d => d.parameters.length) = some 2 := by decide +kernel
theorem hdO_P_creditorsOf : HdOk hd_P_creditorsOf y_P_creditorsOf 5 := Or.inl ⟨_, _, rfl⟩
def y_P_owedTo : MethodName := ⟨"LandRegister$Parcel", "owedTo", "(I)J"⟩
abbrev b_P_owedTo : ByteArray := prog_7_method_10_code
abbrev hd_P_owedTo : Cond := .code y_P_owedTo b_P_owedTo 5 (some .long)
set_option maxRecDepth 100000 in
theorem hdT_P_owedTo : hd_P_owedTo ∈ TT := tt_in 715 rfl rfl
theorem np_P_owedTo : (parseMethodDescriptor y_P_owedTo.desc).map (fun d => d.parameters.length) = some 1 := by decide +kernel
theorem hdO_P_owedTo : HdOk hd_P_owedTo y_P_owedTo 5 := Or.inl ⟨_, _, rfl⟩
def y_P_hasSharesOf : MethodName := ⟨"LandRegister$Parcel", "hasSharesOf", "(LLandRegister$Parcel;)Z"⟩
abbrev b_P_hasSharesOf : ByteArray := prog_7_method_11_code
abbrev hd_P_hasSharesOf : Cond := .code y_P_hasSharesOf b_P_hasSharesOf 3 (some .boolean)
set_option maxRecDepth 100000 in
theorem hdT_P_hasSharesOf : hd_P_hasSharesOf ∈ TT := tt_in 298 rfl rfl
theorem np_P_hasSharesOf : (parseMethodDescriptor y_P_hasSharesOf.desc).map (fun d => d.parameters.length) = some 1 := by decide +kernel
theorem hdO_P_hasSharesOf : HdOk hd_P_hasSharesOf y_P_hasSharesOf 3 := Or.inl ⟨_, _, rfl⟩
def y_P_hasMortgagesOf : MethodName := ⟨"LandRegister$Parcel", "hasMortgagesOf", "(LLandRegister$Parcel;)Z"⟩
abbrev b_P_hasMortgagesOf : ByteArray := prog_7_method_12_code
abbrev hd_P_hasMortgagesOf : Cond := .code y_P_hasMortgagesOf b_P_hasMortgagesOf 3 (some .boolean)
set_option maxRecDepth 100000 in
theorem hdT_P_hasMortgagesOf : hd_P_hasMortgagesOf ∈ TT := tt_in 302 rfl rfl
theorem np_P_hasMortgagesOf : (parseMethodDescriptor y_P_hasMortgagesOf.desc).map (fun d => d.parameters.length) = some 1 := by decide +kernel
theorem hdO_P_hasMortgagesOf : HdOk hd_P_hasMortgagesOf y_P_hasMortgagesOf 3 := Or.inl ⟨_, _, rfl⟩
def y_Fo_init : MethodName := ⟨"LandRegister$Found", "<init>", "(II)V"⟩
abbrev b_Fo_init : ByteArray := prog_4_method_1_code
abbrev hd_Fo_init : Cond := .code y_Fo_init b_Fo_init 3 none
set_option maxRecDepth 100000 in
theorem hdT_Fo_init : hd_Fo_init ∈ TT := tt_in 232 rfl rfl
theorem np_Fo_init : (parseMethodDescriptor y_Fo_init.desc).map (fun d => d.parameters.length) = some 2 := by decide +kernel
theorem hdO_Fo_init : HdOk hd_Fo_init y_Fo_init 3 := Or.inl ⟨_, _, rfl⟩
def y_Fo_hindrance : MethodName := ⟨"LandRegister$Found", "hindrance", "([LLandRegister$Parcel;)I"⟩
abbrev b_Fo_hindrance : ByteArray := prog_4_method_2_code
abbrev hd_Fo_hindrance : Cond := .code y_Fo_hindrance b_Fo_hindrance 2 (some .int)
set_option maxRecDepth 100000 in
theorem hdT_Fo_hindrance : hd_Fo_hindrance ∈ TT := tt_in 287 rfl rfl
theorem np_Fo_hindrance : (parseMethodDescriptor y_Fo_hindrance.desc).map (fun d => d.parameters.length) = some 1 := by decide +kernel
theorem hdO_Fo_hindrance : HdOk hd_Fo_hindrance y_Fo_hindrance 2 := Or.inl ⟨_, _, rfl⟩
def y_Fo_carryOut : MethodName := ⟨"LandRegister$Found", "carryOut", "([LLandRegister$Parcel;)V"⟩
abbrev b_Fo_carryOut : ByteArray := prog_4_method_3_code
abbrev hd_Fo_carryOut : Cond := .code y_Fo_carryOut b_Fo_carryOut 2 none
set_option maxRecDepth 100000 in
theorem hdT_Fo_carryOut : hd_Fo_carryOut ∈ TT := tt_in 376 rfl rfl
theorem np_Fo_carryOut : (parseMethodDescriptor y_Fo_carryOut.desc).map (fun d => d.parameters.length) = some 1 := by decide +kernel
theorem hdO_Fo_carryOut : HdOk hd_Fo_carryOut y_Fo_carryOut 2 := Or.inl ⟨_, _, rfl⟩
def y_Se_init : MethodName := ⟨"LandRegister$Sell", "<init>", "(IIIJ)V"⟩
abbrev b_Se_init : ByteArray := prog_11_method_1_code
abbrev hd_Se_init : Cond := .code y_Se_init b_Se_init 6 none
set_option maxRecDepth 100000 in
theorem hdT_Se_init : hd_Se_init ∈ TT := tt_in 448 rfl rfl
theorem np_Se_init : (parseMethodDescriptor y_Se_init.desc).map (fun d => d.parameters.length) = some 4 := by decide +kernel
theorem hdO_Se_init : HdOk hd_Se_init y_Se_init 6 := Or.inl ⟨_, _, rfl⟩
def y_Se_hindrance : MethodName := ⟨"LandRegister$Sell", "hindrance", "([LLandRegister$Parcel;)I"⟩
abbrev b_Se_hindrance : ByteArray := prog_11_method_2_code
abbrev hd_Se_hindrance : Cond := .code y_Se_hindrance b_Se_hindrance 5 (some .int)
set_option maxRecDepth 100000 in
theorem hdT_Se_hindrance : hd_Se_hindrance ∈ TT := tt_in 331 rfl rfl
theorem np_Se_hindrance : (parseMethodDescriptor y_Se_hindrance.desc).map (fun d => d.parameters.length) = some 1 := by decide +kernel
theorem hdO_Se_hindrance : HdOk hd_Se_hindrance y_Se_hindrance 5 := Or.inl ⟨_, _, rfl⟩
def y_Se_carryOut : MethodName := ⟨"LandRegister$Sell", "carryOut", "([LLandRegister$Parcel;)V"⟩
abbrev b_Se_carryOut : ByteArray := prog_11_method_3_code
abbrev hd_Se_carryOut : Cond := .code y_Se_carryOut b_Se_carryOut 3 none
set_option maxRecDepth 100000 in
theorem hdT_Se_carryOut : hd_Se_carryOut ∈ TT := tt_in 419 rfl rfl
theorem np_Se_carryOut : (parseMethodDescriptor y_Se_carryOut.desc).map (fun d => d.parameters.length) = some 1 := by decide +kernel
theorem hdO_Se_carryOut : HdOk hd_Se_carryOut y_Se_carryOut 3 := Or.inl ⟨_, _, rfl⟩
def y_Pl_init : MethodName := ⟨"LandRegister$Pledge", "<init>", "(III)V"⟩
abbrev b_Pl_init : ByteArray := prog_8_method_1_code
abbrev hd_Pl_init : Cond := .code y_Pl_init b_Pl_init 4 none
set_option maxRecDepth 100000 in
theorem hdT_Pl_init : hd_Pl_init ∈ TT := tt_in 478 rfl rfl
theorem np_Pl_init : (parseMethodDescriptor y_Pl_init.desc).map (fun d => d.parameters.length) = some 3 := by decide +kernel
theorem hdO_Pl_init : HdOk hd_Pl_init y_Pl_init 4 := Or.inl ⟨_, _, rfl⟩
def y_Pl_hindrance : MethodName := ⟨"LandRegister$Pledge", "hindrance", "([LLandRegister$Parcel;)I"⟩
abbrev b_Pl_hindrance : ByteArray := prog_8_method_2_code
abbrev hd_Pl_hindrance : Cond := .code y_Pl_hindrance b_Pl_hindrance 4 (some .int)
set_option maxRecDepth 100000 in
theorem hdT_Pl_hindrance : hd_Pl_hindrance ∈ TT := tt_in 305 rfl rfl
theorem np_Pl_hindrance : (parseMethodDescriptor y_Pl_hindrance.desc).map (fun d => d.parameters.length) = some 1 := by decide +kernel
theorem hdO_Pl_hindrance : HdOk hd_Pl_hindrance y_Pl_hindrance 4 := Or.inl ⟨_, _, rfl⟩
def y_Pl_carryOut : MethodName := ⟨"LandRegister$Pledge", "carryOut", "([LLandRegister$Parcel;)V"⟩
abbrev b_Pl_carryOut : ByteArray := prog_8_method_3_code
abbrev hd_Pl_carryOut : Cond := .code y_Pl_carryOut b_Pl_carryOut 3 none
set_option maxRecDepth 100000 in
theorem hdT_Pl_carryOut : hd_Pl_carryOut ∈ TT := tt_in 400 rfl rfl
theorem np_Pl_carryOut : (parseMethodDescriptor y_Pl_carryOut.desc).map (fun d => d.parameters.length) = some 1 := by decide +kernel
theorem hdO_Pl_carryOut : HdOk hd_Pl_carryOut y_Pl_carryOut 3 := Or.inl ⟨_, _, rfl⟩
def y_Re_init : MethodName := ⟨"LandRegister$Rerank", "<init>", "(IIII)V"⟩
abbrev b_Re_init : ByteArray := prog_10_method_1_code
abbrev hd_Re_init : Cond := .code y_Re_init b_Re_init 5 none
set_option maxRecDepth 100000 in
theorem hdT_Re_init : hd_Re_init ∈ TT := tt_in 508 rfl rfl
theorem np_Re_init : (parseMethodDescriptor y_Re_init.desc).map (fun d => d.parameters.length) = some 4 := by decide +kernel
theorem hdO_Re_init : HdOk hd_Re_init y_Re_init 5 := Or.inl ⟨_, _, rfl⟩
def y_Re_hindrance : MethodName := ⟨"LandRegister$Rerank", "hindrance", "([LLandRegister$Parcel;)I"⟩
abbrev b_Re_hindrance : ByteArray := prog_10_method_2_code
abbrev hd_Re_hindrance : Cond := .code y_Re_hindrance b_Re_hindrance 4 (some .int)
set_option maxRecDepth 100000 in
theorem hdT_Re_hindrance : hd_Re_hindrance ∈ TT := tt_in 315 rfl rfl
theorem np_Re_hindrance : (parseMethodDescriptor y_Re_hindrance.desc).map (fun d => d.parameters.length) = some 1 := by decide +kernel
theorem hdO_Re_hindrance : HdOk hd_Re_hindrance y_Re_hindrance 4 := Or.inl ⟨_, _, rfl⟩
def y_Re_consentsNeeded : MethodName := ⟨"LandRegister$Rerank", "consentsNeeded", "(LLandRegister$Parcel;)I"⟩
abbrev b_Re_consentsNeeded : ByteArray := prog_10_method_3_code
abbrev hd_Re_consentsNeeded : Cond := .code y_Re_consentsNeeded b_Re_consentsNeeded 3 (some .int)
set_option maxRecDepth 100000 in
theorem hdT_Re_consentsNeeded : hd_Re_consentsNeeded ∈ TT := tt_in 324 rfl rfl
theorem np_Re_consentsNeeded : (parseMethodDescriptor y_Re_consentsNeeded.desc).map (fun d => d.parameters.length) = some 1 := by decide +kernel
theorem hdO_Re_consentsNeeded : HdOk hd_Re_consentsNeeded y_Re_consentsNeeded 3 := Or.inl ⟨_, _, rfl⟩
def y_Re_carryOut : MethodName := ⟨"LandRegister$Rerank", "carryOut", "([LLandRegister$Parcel;)V"⟩
abbrev b_Re_carryOut : ByteArray := prog_10_method_4_code
abbrev hd_Re_carryOut : Cond := .code y_Re_carryOut b_Re_carryOut 5 none
set_option maxRecDepth 100000 in
theorem hdT_Re_carryOut : hd_Re_carryOut ∈ TT := tt_in 414 rfl rfl
theorem np_Re_carryOut : (parseMethodDescriptor y_Re_carryOut.desc).map (fun d => d.parameters.length) = some 1 := by decide +kernel
theorem hdO_Re_carryOut : HdOk hd_Re_carryOut y_Re_carryOut 5 := Or.inl ⟨_, _, rfl⟩
def y_Rl_init : MethodName := ⟨"LandRegister$Release", "<init>", "(II)V"⟩
abbrev b_Rl_init : ByteArray := prog_9_method_1_code
abbrev hd_Rl_init : Cond := .code y_Rl_init b_Rl_init 3 none
set_option maxRecDepth 100000 in
theorem hdT_Rl_init : hd_Rl_init ∈ TT := tt_in 538 rfl rfl
theorem np_Rl_init : (parseMethodDescriptor y_Rl_init.desc).map (fun d => d.parameters.length) = some 2 := by decide +kernel
theorem hdO_Rl_init : HdOk hd_Rl_init y_Rl_init 3 := Or.inl ⟨_, _, rfl⟩
def y_Rl_hindrance : MethodName := ⟨"LandRegister$Release", "hindrance", "([LLandRegister$Parcel;)I"⟩
abbrev b_Rl_hindrance : ByteArray := prog_9_method_2_code
abbrev hd_Rl_hindrance : Cond := .code y_Rl_hindrance b_Rl_hindrance 3 (some .int)
set_option maxRecDepth 100000 in
theorem hdT_Rl_hindrance : hd_Rl_hindrance ∈ TT := tt_in 312 rfl rfl
theorem np_Rl_hindrance : (parseMethodDescriptor y_Rl_hindrance.desc).map (fun d => d.parameters.length) = some 1 := by decide +kernel
theorem hdO_Rl_hindrance : HdOk hd_Rl_hindrance y_Rl_hindrance 3 := Or.inl ⟨_, _, rfl⟩
def y_Rl_carryOut : MethodName := ⟨"LandRegister$Release", "carryOut", "([LLandRegister$Parcel;)V"⟩
abbrev b_Rl_carryOut : ByteArray := prog_9_method_3_code
abbrev hd_Rl_carryOut : Cond := .code y_Rl_carryOut b_Rl_carryOut 2 none
set_option maxRecDepth 100000 in
theorem hdT_Rl_carryOut : hd_Rl_carryOut ∈ TT := tt_in 407 rfl rfl
theorem np_Rl_carryOut : (parseMethodDescriptor y_Rl_carryOut.desc).map (fun d => d.parameters.length) = some 1 := by decide +kernel
theorem hdO_Rl_carryOut : HdOk hd_Rl_carryOut y_Rl_carryOut 2 := Or.inl ⟨_, _, rfl⟩
def y_Ca_init : MethodName := ⟨"LandRegister$Caution", "<init>", "(II)V"⟩
abbrev b_Ca_init : ByteArray := prog_2_method_1_code
abbrev hd_Ca_init : Cond := .code y_Ca_init b_Ca_init 3 none
set_option maxRecDepth 100000 in
theorem hdT_Ca_init : hd_Ca_init ∈ TT := tt_in 562 rfl rfl
theorem np_Ca_init : (parseMethodDescriptor y_Ca_init.desc).map (fun d => d.parameters.length) = some 2 := by decide +kernel
theorem hdO_Ca_init : HdOk hd_Ca_init y_Ca_init 3 := Or.inl ⟨_, _, rfl⟩
def y_Ca_hindrance : MethodName := ⟨"LandRegister$Caution", "hindrance", "([LLandRegister$Parcel;)I"⟩
abbrev b_Ca_hindrance : ByteArray := prog_2_method_2_code
abbrev hd_Ca_hindrance : Cond := .code y_Ca_hindrance b_Ca_hindrance 3 (some .int)
set_option maxRecDepth 100000 in
theorem hdT_Ca_hindrance : hd_Ca_hindrance ∈ TT := tt_in 280 rfl rfl
theorem np_Ca_hindrance : (parseMethodDescriptor y_Ca_hindrance.desc).map (fun d => d.parameters.length) = some 1 := by decide +kernel
theorem hdO_Ca_hindrance : HdOk hd_Ca_hindrance y_Ca_hindrance 3 := Or.inl ⟨_, _, rfl⟩
def y_Ca_carryOut : MethodName := ⟨"LandRegister$Caution", "carryOut", "([LLandRegister$Parcel;)V"⟩
abbrev b_Ca_carryOut : ByteArray := prog_2_method_3_code
abbrev hd_Ca_carryOut : Cond := .code y_Ca_carryOut b_Ca_carryOut 2 none
set_option maxRecDepth 100000 in
theorem hdT_Ca_carryOut : hd_Ca_carryOut ∈ TT := tt_in 373 rfl rfl
theorem np_Ca_carryOut : (parseMethodDescriptor y_Ca_carryOut.desc).map (fun d => d.parameters.length) = some 1 := by decide +kernel
theorem hdO_Ca_carryOut : HdOk hd_Ca_carryOut y_Ca_carryOut 2 := Or.inl ⟨_, _, rfl⟩
def y_Li_init : MethodName := ⟨"LandRegister$Lift", "<init>", "(II)V"⟩
abbrev b_Li_init : ByteArray := prog_5_method_1_code
abbrev hd_Li_init : Cond := .code y_Li_init b_Li_init 3 none
set_option maxRecDepth 100000 in
theorem hdT_Li_init : hd_Li_init ∈ TT := tt_in 586 rfl rfl
theorem np_Li_init : (parseMethodDescriptor y_Li_init.desc).map (fun d => d.parameters.length) = some 2 := by decide +kernel
theorem hdO_Li_init : HdOk hd_Li_init y_Li_init 3 := Or.inl ⟨_, _, rfl⟩
def y_Li_hindrance : MethodName := ⟨"LandRegister$Lift", "hindrance", "([LLandRegister$Parcel;)I"⟩
abbrev b_Li_hindrance : ByteArray := prog_5_method_2_code
abbrev hd_Li_hindrance : Cond := .code y_Li_hindrance b_Li_hindrance 3 (some .int)
set_option maxRecDepth 100000 in
theorem hdT_Li_hindrance : hd_Li_hindrance ∈ TT := tt_in 290 rfl rfl
theorem np_Li_hindrance : (parseMethodDescriptor y_Li_hindrance.desc).map (fun d => d.parameters.length) = some 1 := by decide +kernel
theorem hdO_Li_hindrance : HdOk hd_Li_hindrance y_Li_hindrance 3 := Or.inl ⟨_, _, rfl⟩
def y_Li_carryOut : MethodName := ⟨"LandRegister$Lift", "carryOut", "([LLandRegister$Parcel;)V"⟩
abbrev b_Li_carryOut : ByteArray := prog_5_method_3_code
abbrev hd_Li_carryOut : Cond := .code y_Li_carryOut b_Li_carryOut 2 none
set_option maxRecDepth 100000 in
theorem hdT_Li_carryOut : hd_Li_carryOut ∈ TT := tt_in 387 rfl rfl
theorem np_Li_carryOut : (parseMethodDescriptor y_Li_carryOut.desc).map (fun d => d.parameters.length) = some 1 := by decide +kernel
theorem hdO_Li_carryOut : HdOk hd_Li_carryOut y_Li_carryOut 2 := Or.inl ⟨_, _, rfl⟩
def y_Sp_init : MethodName := ⟨"LandRegister$Split", "<init>", "(II)V"⟩
abbrev b_Sp_init : ByteArray := prog_12_method_1_code
abbrev hd_Sp_init : Cond := .code y_Sp_init b_Sp_init 3 none
set_option maxRecDepth 100000 in
theorem hdT_Sp_init : hd_Sp_init ∈ TT := tt_in 610 rfl rfl
theorem np_Sp_init : (parseMethodDescriptor y_Sp_init.desc).map (fun d => d.parameters.length) = some 2 := by decide +kernel
theorem hdO_Sp_init : HdOk hd_Sp_init y_Sp_init 3 := Or.inl ⟨_, _, rfl⟩
def y_Sp_hindrance : MethodName := ⟨"LandRegister$Split", "hindrance", "([LLandRegister$Parcel;)I"⟩
abbrev b_Sp_hindrance : ByteArray := prog_12_method_2_code
abbrev hd_Sp_hindrance : Cond := .code y_Sp_hindrance b_Sp_hindrance 4 (some .int)
set_option maxRecDepth 100000 in
theorem hdT_Sp_hindrance : hd_Sp_hindrance ∈ TT := tt_in 366 rfl rfl
theorem np_Sp_hindrance : (parseMethodDescriptor y_Sp_hindrance.desc).map (fun d => d.parameters.length) = some 1 := by decide +kernel
theorem hdO_Sp_hindrance : HdOk hd_Sp_hindrance y_Sp_hindrance 4 := Or.inl ⟨_, _, rfl⟩
def y_Sp_carryOut : MethodName := ⟨"LandRegister$Split", "carryOut", "([LLandRegister$Parcel;)V"⟩
abbrev b_Sp_carryOut : ByteArray := prog_12_method_3_code
abbrev hd_Sp_carryOut : Cond := .code y_Sp_carryOut b_Sp_carryOut 5 none
set_option maxRecDepth 100000 in
theorem hdT_Sp_carryOut : hd_Sp_carryOut ∈ TT := tt_in 422 rfl rfl
theorem np_Sp_carryOut : (parseMethodDescriptor y_Sp_carryOut.desc).map (fun d => d.parameters.length) = some 1 := by decide +kernel
theorem hdO_Sp_carryOut : HdOk hd_Sp_carryOut y_Sp_carryOut 5 := Or.inl ⟨_, _, rfl⟩
def y_Me_init : MethodName := ⟨"LandRegister$Merge", "<init>", "(II)V"⟩
abbrev b_Me_init : ByteArray := prog_6_method_1_code
abbrev hd_Me_init : Cond := .code y_Me_init b_Me_init 3 none
set_option maxRecDepth 100000 in
theorem hdT_Me_init : hd_Me_init ∈ TT := tt_in 634 rfl rfl
theorem np_Me_init : (parseMethodDescriptor y_Me_init.desc).map (fun d => d.parameters.length) = some 2 := by decide +kernel
theorem hdO_Me_init : HdOk hd_Me_init y_Me_init 3 := Or.inl ⟨_, _, rfl⟩
def y_Me_hindrance : MethodName := ⟨"LandRegister$Merge", "hindrance", "([LLandRegister$Parcel;)I"⟩
abbrev b_Me_hindrance : ByteArray := prog_6_method_2_code
abbrev hd_Me_hindrance : Cond := .code y_Me_hindrance b_Me_hindrance 4 (some .int)
set_option maxRecDepth 100000 in
theorem hdT_Me_hindrance : hd_Me_hindrance ∈ TT := tt_in 294 rfl rfl
theorem np_Me_hindrance : (parseMethodDescriptor y_Me_hindrance.desc).map (fun d => d.parameters.length) = some 1 := by decide +kernel
theorem hdO_Me_hindrance : HdOk hd_Me_hindrance y_Me_hindrance 4 := Or.inl ⟨_, _, rfl⟩
def y_Me_carryOut : MethodName := ⟨"LandRegister$Merge", "carryOut", "([LLandRegister$Parcel;)V"⟩
abbrev b_Me_carryOut : ByteArray := prog_6_method_3_code
abbrev hd_Me_carryOut : Cond := .code y_Me_carryOut b_Me_carryOut 5 none
set_option maxRecDepth 100000 in
theorem hdT_Me_carryOut : hd_Me_carryOut ∈ TT := tt_in 390 rfl rfl
theorem np_Me_carryOut : (parseMethodDescriptor y_Me_carryOut.desc).map (fun d => d.parameters.length) = some 1 := by decide +kernel
theorem hdO_Me_carryOut : HdOk hd_Me_carryOut y_Me_carryOut 5 := Or.inl ⟨_, _, rfl⟩
def y_De_init : MethodName := ⟨"LandRegister$Deed", "<init>", "()V"⟩
abbrev b_De_init : ByteArray := prog_3_method_1_code
abbrev hd_De_init : Cond := .code y_De_init b_De_init 1 none
set_option maxRecDepth 100000 in
theorem hdT_De_init : hd_De_init ∈ TT := tt_in 235 rfl rfl
theorem np_De_init : (parseMethodDescriptor y_De_init.desc).map (fun d => d.parameters.length) = some 0 := by decide +kernel
theorem hdO_De_init : HdOk hd_De_init y_De_init 1 := Or.inl ⟨_, _, rfl⟩
def y_M_init : MethodName := ⟨"LandRegisterModel", "<init>", "()V"⟩
abbrev b_M_init : ByteArray := prog_14_method_1_code
abbrev hd_M_init : Cond := .code y_M_init b_M_init 1 none
set_option maxRecDepth 100000 in
theorem hdT_M_init : hd_M_init ∈ TT := tt_in 744 rfl rfl
theorem np_M_init : (parseMethodDescriptor y_M_init.desc).map (fun d => d.parameters.length) = some 0 := by decide +kernel
theorem hdO_M_init : HdOk hd_M_init y_M_init 1 := Or.inl ⟨_, _, rfl⟩
def y_M_thrown : MethodName := ⟨"LandRegisterModel", "thrown", "()I"⟩
abbrev b_M_thrown : ByteArray := prog_14_method_2_code
abbrev hd_M_thrown : Cond := .code y_M_thrown b_M_thrown 1 (some .int)
set_option maxRecDepth 100000 in
theorem hdT_M_thrown : hd_M_thrown ∈ TT := tt_in 873 rfl rfl
theorem np_M_thrown : (parseMethodDescriptor y_M_thrown.desc).map (fun d => d.parameters.length) = some 0 := by decide +kernel
theorem hdO_M_thrown : HdOk hd_M_thrown y_M_thrown 1 := Or.inl ⟨_, _, rfl⟩
def y_M_look : MethodName := ⟨"LandRegisterModel", "look", "(II)V"⟩
abbrev b_M_look : ByteArray := prog_14_method_3_code
abbrev hd_M_look : Cond := .code y_M_look b_M_look 5 none
set_option maxRecDepth 100000 in
theorem hdT_M_look : hd_M_look ∈ TT := tt_in 749 rfl rfl
theorem np_M_look : (parseMethodDescriptor y_M_look.desc).map (fun d => d.parameters.length) = some 2 := by decide +kernel
theorem hdO_M_look : HdOk hd_M_look y_M_look 5 := Or.inl ⟨_, _, rfl⟩
def y_M_isWarned : MethodName := ⟨"LandRegisterModel", "isWarned", "(I)Z"⟩
abbrev b_M_isWarned : ByteArray := prog_14_method_4_code
abbrev hd_M_isWarned : Cond := .code y_M_isWarned b_M_isWarned 2 (some .boolean)
set_option maxRecDepth 100000 in
theorem hdT_M_isWarned : hd_M_isWarned ∈ TT := tt_in 757 rfl rfl
theorem np_M_isWarned : (parseMethodDescriptor y_M_isWarned.desc).map (fun d => d.parameters.length) = some 1 := by decide +kernel
theorem hdO_M_isWarned : HdOk hd_M_isWarned y_M_isWarned 2 := Or.inl ⟨_, _, rfl⟩
def y_M_reason : MethodName := ⟨"LandRegisterModel", "reason", "(I)I"⟩
abbrev b_M_reason : ByteArray := prog_14_method_5_code
abbrev hd_M_reason : Cond := .code y_M_reason b_M_reason 5 (some .int)
set_option maxRecDepth 100000 in
theorem hdT_M_reason : hd_M_reason ∈ TT := tt_in 753 rfl rfl
theorem np_M_reason : (parseMethodDescriptor y_M_reason.desc).map (fun d => d.parameters.length) = some 1 := by decide +kernel
theorem hdO_M_reason : HdOk hd_M_reason y_M_reason 5 := Or.inl ⟨_, _, rfl⟩
def y_M_divisor : MethodName := ⟨"LandRegisterModel", "divisor", "(JJ)J"⟩
abbrev b_M_divisor : ByteArray := prog_14_method_6_code
abbrev hd_M_divisor : Cond := .code y_M_divisor b_M_divisor 10 (some .long)
set_option maxRecDepth 100000 in
theorem hdT_M_divisor : hd_M_divisor ∈ TT := tt_in 767 rfl rfl
theorem np_M_divisor : (parseMethodDescriptor y_M_divisor.desc).map (fun d => d.parameters.length) = some 2 := by decide +kernel
theorem hdO_M_divisor : HdOk hd_M_divisor y_M_divisor 10 := Or.inl ⟨_, _, rfl⟩
def y_M_lowest : MethodName := ⟨"LandRegisterModel", "lowest", "(JJ)J"⟩
abbrev b_M_lowest : ByteArray := prog_14_method_7_code
abbrev hd_M_lowest : Cond := .code y_M_lowest b_M_lowest 4 (some .long)
set_option maxRecDepth 100000 in
theorem hdT_M_lowest : hd_M_lowest ∈ TT := tt_in 764 rfl rfl
theorem np_M_lowest : (parseMethodDescriptor y_M_lowest.desc).map (fun d => d.parameters.length) = some 2 := by decide +kernel
theorem hdO_M_lowest : HdOk hd_M_lowest y_M_lowest 4 := Or.inl ⟨_, _, rfl⟩
def y_M_ofSale : MethodName := ⟨"LandRegisterModel", "ofSale", "(I)I"⟩
abbrev b_M_ofSale : ByteArray := prog_14_method_8_code
abbrev hd_M_ofSale : Cond := .code y_M_ofSale b_M_ofSale 14 (some .int)
set_option maxRecDepth 100000 in
theorem hdT_M_ofSale : hd_M_ofSale ∈ TT := tt_in 761 rfl rfl
theorem np_M_ofSale : (parseMethodDescriptor y_M_ofSale.desc).map (fun d => d.parameters.length) = some 1 := by decide +kernel
theorem hdO_M_ofSale : HdOk hd_M_ofSale y_M_ofSale 14 := Or.inl ⟨_, _, rfl⟩
def y_M_agreed : MethodName := ⟨"LandRegisterModel", "agreed", "(I)Z"⟩
abbrev b_M_agreed : ByteArray := prog_14_method_9_code
abbrev hd_M_agreed : Cond := .code y_M_agreed b_M_agreed 11 (some .boolean)
set_option maxRecDepth 100000 in
theorem hdT_M_agreed : hd_M_agreed ∈ TT := tt_in 772 rfl rfl
theorem np_M_agreed : (parseMethodDescriptor y_M_agreed.desc).map (fun d => d.parameters.length) = some 1 := by decide +kernel
theorem hdO_M_agreed : HdOk hd_M_agreed y_M_agreed 11 := Or.inl ⟨_, _, rfl⟩
def y_M_sameShares : MethodName := ⟨"LandRegisterModel", "sameShares", "(II)Z"⟩
abbrev b_M_sameShares : ByteArray := prog_14_method_10_code
abbrev hd_M_sameShares : Cond := .code y_M_sameShares b_M_sameShares 5 (some .boolean)
set_option maxRecDepth 100000 in
theorem hdT_M_sameShares : hd_M_sameShares ∈ TT := tt_in 776 rfl rfl
theorem np_M_sameShares : (parseMethodDescriptor y_M_sameShares.desc).map (fun d => d.parameters.length) = some 2 := by decide +kernel
theorem hdO_M_sameShares : HdOk hd_M_sameShares y_M_sameShares 5 := Or.inl ⟨_, _, rfl⟩
def y_M_sameMortgages : MethodName := ⟨"LandRegisterModel", "sameMortgages", "(II)Z"⟩
abbrev b_M_sameMortgages : ByteArray := prog_14_method_11_code
abbrev hd_M_sameMortgages : Cond := .code y_M_sameMortgages b_M_sameMortgages 5 (some .boolean)
set_option maxRecDepth 100000 in
theorem hdT_M_sameMortgages : hd_M_sameMortgages ∈ TT := tt_in 780 rfl rfl
theorem np_M_sameMortgages : (parseMethodDescriptor y_M_sameMortgages.desc).map (fun d => d.parameters.length) = some 2 := by decide +kernel
theorem hdO_M_sameMortgages : HdOk hd_M_sameMortgages y_M_sameMortgages 5 := Or.inl ⟨_, _, rfl⟩
def y_M_setShare : MethodName := ⟨"LandRegisterModel", "setShare", "(IJJ)V"⟩
abbrev b_M_setShare : ByteArray := prog_14_method_12_code
abbrev hd_M_setShare : Cond := .code y_M_setShare b_M_setShare 8 none
set_option maxRecDepth 100000 in
theorem hdT_M_setShare : hd_M_setShare ∈ TT := tt_in 796 rfl rfl
theorem np_M_setShare : (parseMethodDescriptor y_M_setShare.desc).map (fun d => d.parameters.length) = some 3 := by decide +kernel
theorem hdO_M_setShare : HdOk hd_M_setShare y_M_setShare 8 := Or.inl ⟨_, _, rfl⟩
def y_M_make : MethodName := ⟨"LandRegisterModel", "make", "(IJI)V"⟩
abbrev b_M_make : ByteArray := prog_14_method_13_code
abbrev hd_M_make : Cond := .code y_M_make b_M_make 6 none
set_option maxRecDepth 100000 in
theorem hdT_M_make : hd_M_make ∈ TT := tt_in 788 rfl rfl
theorem np_M_make : (parseMethodDescriptor y_M_make.desc).map (fun d => d.parameters.length) = some 3 := by decide +kernel
theorem hdO_M_make : HdOk hd_M_make y_M_make 6 := Or.inl ⟨_, _, rfl⟩
def y_M_exchange : MethodName := ⟨"LandRegisterModel", "exchange", "(II)V"⟩
abbrev b_M_exchange : ByteArray := prog_14_method_14_code
abbrev hd_M_exchange : Cond := .code y_M_exchange b_M_exchange 5 none
set_option maxRecDepth 100000 in
theorem hdT_M_exchange : hd_M_exchange ∈ TT := tt_in 804 rfl rfl
theorem np_M_exchange : (parseMethodDescriptor y_M_exchange.desc).map (fun d => d.parameters.length) = some 2 := by decide +kernel
theorem hdO_M_exchange : HdOk hd_M_exchange y_M_exchange 5 := Or.inl ⟨_, _, rfl⟩
def y_M_carry : MethodName := ⟨"LandRegisterModel", "carry", "(III)V"⟩
abbrev b_M_carry : ByteArray := prog_14_method_15_code
abbrev hd_M_carry : Cond := .code y_M_carry b_M_carry 5 none
set_option maxRecDepth 100000 in
theorem hdT_M_carry : hd_M_carry ∈ TT := tt_in 800 rfl rfl
theorem np_M_carry : (parseMethodDescriptor y_M_carry.desc).map (fun d => d.parameters.length) = some 3 := by decide +kernel
theorem hdO_M_carry : HdOk hd_M_carry y_M_carry 5 := Or.inl ⟨_, _, rfl⟩
def y_M_sells : MethodName := ⟨"LandRegisterModel", "sells", "(I)V"⟩
abbrev b_M_sells : ByteArray := prog_14_method_16_code
abbrev hd_M_sells : Cond := .code y_M_sells b_M_sells 9 none
set_option maxRecDepth 100000 in
theorem hdT_M_sells : hd_M_sells ∈ TT := tt_in 792 rfl rfl
theorem np_M_sells : (parseMethodDescriptor y_M_sells.desc).map (fun d => d.parameters.length) = some 1 := by decide +kernel
theorem hdO_M_sells : HdOk hd_M_sells y_M_sells 9 := Or.inl ⟨_, _, rfl⟩
def y_M_does : MethodName := ⟨"LandRegisterModel", "does", "(I)V"⟩
abbrev b_M_does : ByteArray := prog_14_method_17_code
abbrev hd_M_does : Cond := .code y_M_does b_M_does 3 none
set_option maxRecDepth 100000 in
theorem hdT_M_does : hd_M_does ∈ TT := tt_in 784 rfl rfl
theorem np_M_does : (parseMethodDescriptor y_M_does.desc).map (fun d => d.parameters.length) = some 1 := by decide +kernel
theorem hdO_M_does : HdOk hd_M_does y_M_does 3 := Or.inl ⟨_, _, rfl⟩
def y_M_noPerson : MethodName := ⟨"LandRegisterModel", "noPerson", "(I)Z"⟩
abbrev b_M_noPerson : ByteArray := prog_14_method_18_code
abbrev hd_M_noPerson : Cond := .code y_M_noPerson b_M_noPerson 1 (some .boolean)
set_option maxRecDepth 100000 in
theorem hdT_M_noPerson : hd_M_noPerson ∈ TT := tt_in 884 rfl rfl
theorem np_M_noPerson : (parseMethodDescriptor y_M_noPerson.desc).map (fun d => d.parameters.length) = some 1 := by decide +kernel
theorem hdO_M_noPerson : HdOk hd_M_noPerson y_M_noPerson 1 := Or.inl ⟨_, _, rfl⟩
def y_M_noParcel : MethodName := ⟨"LandRegisterModel", "noParcel", "(I)Z"⟩
abbrev b_M_noParcel : ByteArray := prog_14_method_19_code
abbrev hd_M_noParcel : Cond := .code y_M_noParcel b_M_noParcel 1 (some .boolean)
set_option maxRecDepth 100000 in
theorem hdT_M_noParcel : hd_M_noParcel ∈ TT := tt_in 896 rfl rfl
theorem np_M_noParcel : (parseMethodDescriptor y_M_noParcel.desc).map (fun d => d.parameters.length) = some 1 := by decide +kernel
theorem hdO_M_noParcel : HdOk hd_M_noParcel y_M_noParcel 1 := Or.inl ⟨_, _, rfl⟩
def y_M_noAmount : MethodName := ⟨"LandRegisterModel", "noAmount", "(I)Z"⟩
abbrev b_M_noAmount : ByteArray := prog_14_method_20_code
abbrev hd_M_noAmount : Cond := .code y_M_noAmount b_M_noAmount 1 (some .boolean)
set_option maxRecDepth 100000 in
theorem hdT_M_noAmount : hd_M_noAmount ∈ TT := tt_in 880 rfl rfl
theorem np_M_noAmount : (parseMethodDescriptor y_M_noAmount.desc).map (fun d => d.parameters.length) = some 1 := by decide +kernel
theorem hdO_M_noAmount : HdOk hd_M_noAmount y_M_noAmount 1 := Or.inl ⟨_, _, rfl⟩
def y_M_file : MethodName := ⟨"LandRegisterModel", "file", "(ZIIIIII)I"⟩
abbrev b_M_file : ByteArray := prog_14_method_21_code
abbrev hd_M_file : Cond := .code y_M_file b_M_file 8 (some .int)
set_option maxRecDepth 100000 in
theorem hdT_M_file : hd_M_file ∈ TT := tt_in 888 rfl rfl
theorem np_M_file : (parseMethodDescriptor y_M_file.desc).map (fun d => d.parameters.length) = some 7 := by decide +kernel
theorem hdO_M_file : HdOk hd_M_file y_M_file 8 := Or.inl ⟨_, _, rfl⟩
def y_M_found : MethodName := ⟨"LandRegisterModel", "found", "(III)I"⟩
abbrev b_M_found : ByteArray := prog_14_method_22_code
abbrev hd_M_found : Cond := .code y_M_found b_M_found 4 (some .int)
set_option maxRecDepth 100000 in
theorem hdT_M_found : hd_M_found ∈ TT := tt_in 877 rfl rfl
theorem np_M_found : (parseMethodDescriptor y_M_found.desc).map (fun d => d.parameters.length) = some 3 := by decide +kernel
theorem hdO_M_found : HdOk hd_M_found y_M_found 4 := Or.inl ⟨_, _, rfl⟩
def y_M_sell : MethodName := ⟨"LandRegisterModel", "sell", "(IIIIJ)I"⟩
abbrev b_M_sell : ByteArray := prog_14_method_23_code
abbrev hd_M_sell : Cond := .code y_M_sell b_M_sell 12 (some .int)
set_option maxRecDepth 100000 in
theorem hdT_M_sell : hd_M_sell ∈ TT := tt_in 892 rfl rfl
theorem np_M_sell : (parseMethodDescriptor y_M_sell.desc).map (fun d => d.parameters.length) = some 5 := by decide +kernel
theorem hdO_M_sell : HdOk hd_M_sell y_M_sell 12 := Or.inl ⟨_, _, rfl⟩
def y_M_pledge : MethodName := ⟨"LandRegisterModel", "pledge", "(IIII)I"⟩
abbrev b_M_pledge : ByteArray := prog_14_method_24_code
abbrev hd_M_pledge : Cond := .code y_M_pledge b_M_pledge 5 (some .int)
set_option maxRecDepth 100000 in
theorem hdT_M_pledge : hd_M_pledge ∈ TT := tt_in 900 rfl rfl
theorem np_M_pledge : (parseMethodDescriptor y_M_pledge.desc).map (fun d => d.parameters.length) = some 4 := by decide +kernel
theorem hdO_M_pledge : HdOk hd_M_pledge y_M_pledge 5 := Or.inl ⟨_, _, rfl⟩
def y_M_rerank : MethodName := ⟨"LandRegisterModel", "rerank", "(IIIII)I"⟩
abbrev b_M_rerank : ByteArray := prog_14_method_25_code
abbrev hd_M_rerank : Cond := .code y_M_rerank b_M_rerank 6 (some .int)
set_option maxRecDepth 100000 in
theorem hdT_M_rerank : hd_M_rerank ∈ TT := tt_in 904 rfl rfl
theorem np_M_rerank : (parseMethodDescriptor y_M_rerank.desc).map (fun d => d.parameters.length) = some 5 := by decide +kernel
theorem hdO_M_rerank : HdOk hd_M_rerank y_M_rerank 6 := Or.inl ⟨_, _, rfl⟩
def y_M_release : MethodName := ⟨"LandRegisterModel", "release", "(III)I"⟩
abbrev b_M_release : ByteArray := prog_14_method_26_code
abbrev hd_M_release : Cond := .code y_M_release b_M_release 4 (some .int)
set_option maxRecDepth 100000 in
theorem hdT_M_release : hd_M_release ∈ TT := tt_in 908 rfl rfl
theorem np_M_release : (parseMethodDescriptor y_M_release.desc).map (fun d => d.parameters.length) = some 3 := by decide +kernel
theorem hdO_M_release : HdOk hd_M_release y_M_release 4 := Or.inl ⟨_, _, rfl⟩
def y_M_caution : MethodName := ⟨"LandRegisterModel", "caution", "(III)I"⟩
abbrev b_M_caution : ByteArray := prog_14_method_27_code
abbrev hd_M_caution : Cond := .code y_M_caution b_M_caution 4 (some .int)
set_option maxRecDepth 100000 in
theorem hdT_M_caution : hd_M_caution ∈ TT := tt_in 912 rfl rfl
theorem np_M_caution : (parseMethodDescriptor y_M_caution.desc).map (fun d => d.parameters.length) = some 3 := by decide +kernel
theorem hdO_M_caution : HdOk hd_M_caution y_M_caution 4 := Or.inl ⟨_, _, rfl⟩
def y_M_lift : MethodName := ⟨"LandRegisterModel", "lift", "(III)I"⟩
abbrev b_M_lift : ByteArray := prog_14_method_28_code
abbrev hd_M_lift : Cond := .code y_M_lift b_M_lift 4 (some .int)
set_option maxRecDepth 100000 in
theorem hdT_M_lift : hd_M_lift ∈ TT := tt_in 916 rfl rfl
theorem np_M_lift : (parseMethodDescriptor y_M_lift.desc).map (fun d => d.parameters.length) = some 3 := by decide +kernel
theorem hdO_M_lift : HdOk hd_M_lift y_M_lift 4 := Or.inl ⟨_, _, rfl⟩
def y_M_split : MethodName := ⟨"LandRegisterModel", "split", "(III)I"⟩
abbrev b_M_split : ByteArray := prog_14_method_29_code
abbrev hd_M_split : Cond := .code y_M_split b_M_split 4 (some .int)
set_option maxRecDepth 100000 in
theorem hdT_M_split : hd_M_split ∈ TT := tt_in 920 rfl rfl
theorem np_M_split : (parseMethodDescriptor y_M_split.desc).map (fun d => d.parameters.length) = some 3 := by decide +kernel
theorem hdO_M_split : HdOk hd_M_split y_M_split 4 := Or.inl ⟨_, _, rfl⟩
def y_M_merge : MethodName := ⟨"LandRegisterModel", "merge", "(III)I"⟩
abbrev b_M_merge : ByteArray := prog_14_method_30_code
abbrev hd_M_merge : Cond := .code y_M_merge b_M_merge 4 (some .int)
set_option maxRecDepth 100000 in
theorem hdT_M_merge : hd_M_merge ∈ TT := tt_in 924 rfl rfl
theorem np_M_merge : (parseMethodDescriptor y_M_merge.desc).map (fun d => d.parameters.length) = some 3 := by decide +kernel
theorem hdO_M_merge : HdOk hd_M_merge y_M_merge 4 := Or.inl ⟨_, _, rfl⟩
def y_M_day : MethodName := ⟨"LandRegisterModel", "day", "()I"⟩
abbrev b_M_day : ByteArray := prog_14_method_31_code
abbrev hd_M_day : Cond := .code y_M_day b_M_day 1 (some .int)
set_option maxRecDepth 100000 in
theorem hdT_M_day : hd_M_day ∈ TT := tt_in 928 rfl rfl
theorem np_M_day : (parseMethodDescriptor y_M_day.desc).map (fun d => d.parameters.length) = some 0 := by decide +kernel
theorem hdO_M_day : HdOk hd_M_day y_M_day 1 := Or.inl ⟨_, _, rfl⟩
def y_M_view : MethodName := ⟨"LandRegisterModel", "view", "(II)I"⟩
abbrev b_M_view : ByteArray := prog_14_method_32_code
abbrev hd_M_view : Cond := .code y_M_view b_M_view 5 (some .int)
set_option maxRecDepth 100000 in
theorem hdT_M_view : hd_M_view ∈ TT := tt_in 932 rfl rfl
theorem np_M_view : (parseMethodDescriptor y_M_view.desc).map (fun d => d.parameters.length) = some 2 := by decide +kernel
theorem hdO_M_view : HdOk hd_M_view y_M_view 5 := Or.inl ⟨_, _, rfl⟩
def y_M_parcel : MethodName := ⟨"LandRegisterModel", "parcel", "(I)I"⟩
abbrev b_M_parcel : ByteArray := prog_14_method_33_code
abbrev hd_M_parcel : Cond := .code y_M_parcel b_M_parcel 4 (some .int)
set_option maxRecDepth 100000 in
theorem hdT_M_parcel : hd_M_parcel ∈ TT := tt_in 936 rfl rfl
theorem np_M_parcel : (parseMethodDescriptor y_M_parcel.desc).map (fun d => d.parameters.length) = some 1 := by decide +kernel
theorem hdO_M_parcel : HdOk hd_M_parcel y_M_parcel 4 := Or.inl ⟨_, _, rfl⟩
def y_M_area : MethodName := ⟨"LandRegisterModel", "area", "(I)J"⟩
abbrev b_M_area : ByteArray := prog_14_method_34_code
abbrev hd_M_area : Cond := .code y_M_area b_M_area 2 (some .long)
set_option maxRecDepth 100000 in
theorem hdT_M_area : hd_M_area ∈ TT := tt_in 940 rfl rfl
theorem np_M_area : (parseMethodDescriptor y_M_area.desc).map (fun d => d.parameters.length) = some 1 := by decide +kernel
theorem hdO_M_area : HdOk hd_M_area y_M_area 2 := Or.inl ⟨_, _, rfl⟩
def y_M_share : MethodName := ⟨"LandRegisterModel", "share", "(II)J"⟩
abbrev b_M_share : ByteArray := prog_14_method_35_code
abbrev hd_M_share : Cond := .code y_M_share b_M_share 3 (some .long)
set_option maxRecDepth 100000 in
theorem hdT_M_share : hd_M_share ∈ TT := tt_in 944 rfl rfl
theorem np_M_share : (parseMethodDescriptor y_M_share.desc).map (fun d => d.parameters.length) = some 2 := by decide +kernel
theorem hdO_M_share : HdOk hd_M_share y_M_share 3 := Or.inl ⟨_, _, rfl⟩
def y_M_mortgage : MethodName := ⟨"LandRegisterModel", "mortgage", "(III)I"⟩
abbrev b_M_mortgage : ByteArray := prog_14_method_36_code
abbrev hd_M_mortgage : Cond := .code y_M_mortgage b_M_mortgage 5 (some .int)
set_option maxRecDepth 100000 in
theorem hdT_M_mortgage : hd_M_mortgage ∈ TT := tt_in 948 rfl rfl
theorem np_M_mortgage : (parseMethodDescriptor y_M_mortgage.desc).map (fun d => d.parameters.length) = some 3 := by decide +kernel
theorem hdO_M_mortgage : HdOk hd_M_mortgage y_M_mortgage 5 := Or.inl ⟨_, _, rfl⟩
def y_M_cautions : MethodName := ⟨"LandRegisterModel", "cautions", "(I)I"⟩
abbrev b_M_cautions : ByteArray := prog_14_method_37_code
abbrev hd_M_cautions : Cond := .code y_M_cautions b_M_cautions 2 (some .int)
set_option maxRecDepth 100000 in
theorem hdT_M_cautions : hd_M_cautions ∈ TT := tt_in 952 rfl rfl
theorem np_M_cautions : (parseMethodDescriptor y_M_cautions.desc).map (fun d => d.parameters.length) = some 1 := by decide +kernel
theorem hdO_M_cautions : HdOk hd_M_cautions y_M_cautions 2 := Or.inl ⟨_, _, rfl⟩
def y_M_origin : MethodName := ⟨"LandRegisterModel", "origin", "(II)I"⟩
abbrev b_M_origin : ByteArray := prog_14_method_38_code
abbrev hd_M_origin : Cond := .code y_M_origin b_M_origin 3 (some .int)
set_option maxRecDepth 100000 in
theorem hdT_M_origin : hd_M_origin ∈ TT := tt_in 956 rfl rfl
theorem np_M_origin : (parseMethodDescriptor y_M_origin.desc).map (fun d => d.parameters.length) = some 2 := by decide +kernel
theorem hdO_M_origin : HdOk hd_M_origin y_M_origin 3 := Or.inl ⟨_, _, rfl⟩
def y_M_holding : MethodName := ⟨"LandRegisterModel", "holding", "(II)I"⟩
abbrev b_M_holding : ByteArray := prog_14_method_39_code
abbrev hd_M_holding : Cond := .code y_M_holding b_M_holding 5 (some .int)
set_option maxRecDepth 100000 in
theorem hdT_M_holding : hd_M_holding ∈ TT := tt_in 960 rfl rfl
theorem np_M_holding : (parseMethodDescriptor y_M_holding.desc).map (fun d => d.parameters.length) = some 2 := by decide +kernel
theorem hdO_M_holding : HdOk hd_M_holding y_M_holding 5 := Or.inl ⟨_, _, rfl⟩
def y_M_owed : MethodName := ⟨"LandRegisterModel", "owed", "(I)J"⟩
abbrev b_M_owed : ByteArray := prog_14_method_40_code
abbrev hd_M_owed : Cond := .code y_M_owed b_M_owed 5 (some .long)
set_option maxRecDepth 100000 in
theorem hdT_M_owed : hd_M_owed ∈ TT := tt_in 964 rfl rfl
theorem np_M_owed : (parseMethodDescriptor y_M_owed.desc).map (fun d => d.parameters.length) = some 1 := by decide +kernel
theorem hdO_M_owed : HdOk hd_M_owed y_M_owed 5 := Or.inl ⟨_, _, rfl⟩
def y_M_state : MethodName := ⟨"LandRegisterModel", "state", "(I)I"⟩
abbrev b_M_state : ByteArray := prog_14_method_41_code
abbrev hd_M_state : Cond := .code y_M_state b_M_state 2 (some .int)
set_option maxRecDepth 100000 in
theorem hdT_M_state : hd_M_state ∈ TT := tt_in 968 rfl rfl
theorem np_M_state : (parseMethodDescriptor y_M_state.desc).map (fun d => d.parameters.length) = some 1 := by decide +kernel
theorem hdO_M_state : HdOk hd_M_state y_M_state 2 := Or.inl ⟨_, _, rfl⟩
def y_W_found : MethodName := ⟨"LandRegisterLaw", "found", "(LLandRegister;III[J)I"⟩
abbrev b_W_found : ByteArray := method_3_code
abbrev hd_W_found : Cond := .codeWith y_W_found b_W_found 6 (some .int) [(0, 12, 15, 13), (0, 12, 19, 15)]
set_option maxRecDepth 100000 in
theorem hdT_W_found : hd_W_found ∈ TT := tt_in 120 rfl rfl
theorem np_W_found : (parseMethodDescriptor y_W_found.desc).map (fun d => d.parameters.length) = some 5 := by decide +kernel
theorem hdO_W_found : HdOk hd_W_found y_W_found 6 := Or.inr ⟨_, _, _, rfl⟩
def y_W_sell : MethodName := ⟨"LandRegisterLaw", "sell", "(LLandRegister;IIIIJ[J)I"⟩
abbrev b_W_sell : ByteArray := method_4_code
abbrev hd_W_sell : Cond := .codeWith y_W_sell b_W_sell 9 (some .int) [(0, 16, 19, 13), (0, 16, 23, 15)]
set_option maxRecDepth 100000 in
theorem hdT_W_sell : hd_W_sell ∈ TT := tt_in 426 rfl rfl
theorem np_W_sell : (parseMethodDescriptor y_W_sell.desc).map (fun d => d.parameters.length) = some 7 := by decide +kernel
theorem hdO_W_sell : HdOk hd_W_sell y_W_sell 9 := Or.inr ⟨_, _, _, rfl⟩
def y_W_pledge : MethodName := ⟨"LandRegisterLaw", "pledge", "(LLandRegister;IIII[J)I"⟩
abbrev b_W_pledge : ByteArray := method_5_code
abbrev hd_W_pledge : Cond := .codeWith y_W_pledge b_W_pledge 7 (some .int) [(0, 14, 17, 13), (0, 14, 21, 15)]
set_option maxRecDepth 100000 in
theorem hdT_W_pledge : hd_W_pledge ∈ TT := tt_in 469 rfl rfl
theorem np_W_pledge : (parseMethodDescriptor y_W_pledge.desc).map (fun d => d.parameters.length) = some 6 := by decide +kernel
theorem hdO_W_pledge : HdOk hd_W_pledge y_W_pledge 7 := Or.inr ⟨_, _, _, rfl⟩
def y_W_rerank : MethodName := ⟨"LandRegisterLaw", "rerank", "(LLandRegister;IIIII[J)I"⟩
abbrev b_W_rerank : ByteArray := method_6_code
abbrev hd_W_rerank : Cond := .codeWith y_W_rerank b_W_rerank 8 (some .int) [(0, 16, 19, 13), (0, 16, 23, 15)]
set_option maxRecDepth 100000 in
theorem hdT_W_rerank : hd_W_rerank ∈ TT := tt_in 496 rfl rfl
theorem np_W_rerank : (parseMethodDescriptor y_W_rerank.desc).map (fun d => d.parameters.length) = some 7 := by decide +kernel
theorem hdO_W_rerank : HdOk hd_W_rerank y_W_rerank 8 := Or.inr ⟨_, _, _, rfl⟩
def y_W_release : MethodName := ⟨"LandRegisterLaw", "release", "(LLandRegister;III[J)I"⟩
abbrev b_W_release : ByteArray := method_7_code
abbrev hd_W_release : Cond := .codeWith y_W_release b_W_release 6 (some .int) [(0, 12, 15, 13), (0, 12, 19, 15)]
set_option maxRecDepth 100000 in
theorem hdT_W_release : hd_W_release ∈ TT := tt_in 529 rfl rfl
theorem np_W_release : (parseMethodDescriptor y_W_release.desc).map (fun d => d.parameters.length) = some 5 := by decide +kernel
theorem hdO_W_release : HdOk hd_W_release y_W_release 6 := Or.inr ⟨_, _, _, rfl⟩
def y_W_caution : MethodName := ⟨"LandRegisterLaw", "caution", "(LLandRegister;III[J)I"⟩
abbrev b_W_caution : ByteArray := method_8_code
abbrev hd_W_caution : Cond := .codeWith y_W_caution b_W_caution 6 (some .int) [(0, 12, 15, 13), (0, 12, 19, 15)]
set_option maxRecDepth 100000 in
theorem hdT_W_caution : hd_W_caution ∈ TT := tt_in 553 rfl rfl
theorem np_W_caution : (parseMethodDescriptor y_W_caution.desc).map (fun d => d.parameters.length) = some 5 := by decide +kernel
theorem hdO_W_caution : HdOk hd_W_caution y_W_caution 6 := Or.inr ⟨_, _, _, rfl⟩
def y_W_lift : MethodName := ⟨"LandRegisterLaw", "lift", "(LLandRegister;III[J)I"⟩
abbrev b_W_lift : ByteArray := method_9_code
abbrev hd_W_lift : Cond := .codeWith y_W_lift b_W_lift 6 (some .int) [(0, 12, 15, 13), (0, 12, 19, 15)]
set_option maxRecDepth 100000 in
theorem hdT_W_lift : hd_W_lift ∈ TT := tt_in 577 rfl rfl
theorem np_W_lift : (parseMethodDescriptor y_W_lift.desc).map (fun d => d.parameters.length) = some 5 := by decide +kernel
theorem hdO_W_lift : HdOk hd_W_lift y_W_lift 6 := Or.inr ⟨_, _, _, rfl⟩
def y_W_split : MethodName := ⟨"LandRegisterLaw", "split", "(LLandRegister;III[J)I"⟩
abbrev b_W_split : ByteArray := method_10_code
abbrev hd_W_split : Cond := .codeWith y_W_split b_W_split 6 (some .int) [(0, 12, 15, 13), (0, 12, 19, 15)]
set_option maxRecDepth 100000 in
theorem hdT_W_split : hd_W_split ∈ TT := tt_in 601 rfl rfl
theorem np_W_split : (parseMethodDescriptor y_W_split.desc).map (fun d => d.parameters.length) = some 5 := by decide +kernel
theorem hdO_W_split : HdOk hd_W_split y_W_split 6 := Or.inr ⟨_, _, _, rfl⟩
def y_W_merge : MethodName := ⟨"LandRegisterLaw", "merge", "(LLandRegister;III[J)I"⟩
abbrev b_W_merge : ByteArray := method_11_code
abbrev hd_W_merge : Cond := .codeWith y_W_merge b_W_merge 6 (some .int) [(0, 12, 15, 13), (0, 12, 19, 15)]
set_option maxRecDepth 100000 in
theorem hdT_W_merge : hd_W_merge ∈ TT := tt_in 625 rfl rfl
theorem np_W_merge : (parseMethodDescriptor y_W_merge.desc).map (fun d => d.parameters.length) = some 5 := by decide +kernel
theorem hdO_W_merge : HdOk hd_W_merge y_W_merge 6 := Or.inr ⟨_, _, _, rfl⟩
def y_W_day : MethodName := ⟨"LandRegisterLaw", "day", "(LLandRegister;[J)I"⟩
abbrev b_W_day : ByteArray := method_12_code
abbrev hd_W_day : Cond := .codeWith y_W_day b_W_day 3 (some .int) [(0, 8, 11, 15)]
set_option maxRecDepth 100000 in
theorem hdT_W_day : hd_W_day ∈ TT := tt_in 649 rfl rfl
theorem np_W_day : (parseMethodDescriptor y_W_day.desc).map (fun d => d.parameters.length) = some 2 := by decide +kernel
theorem hdO_W_day : HdOk hd_W_day y_W_day 3 := Or.inr ⟨_, _, _, rfl⟩
def y_W_view : MethodName := ⟨"LandRegisterLaw", "view", "(LLandRegister;II[J)I"⟩
abbrev b_W_view : ByteArray := method_13_code
abbrev hd_W_view : Cond := .codeWith y_W_view b_W_view 5 (some .int) [(0, 10, 13, 13)]
set_option maxRecDepth 100000 in
theorem hdT_W_view : hd_W_view ∈ TT := tt_in 657 rfl rfl
theorem np_W_view : (parseMethodDescriptor y_W_view.desc).map (fun d => d.parameters.length) = some 4 := by decide +kernel
theorem hdO_W_view : HdOk hd_W_view y_W_view 5 := Or.inr ⟨_, _, _, rfl⟩
def y_W_area : MethodName := ⟨"LandRegisterLaw", "area", "(LLandRegister;I[J)I"⟩
abbrev b_W_area : ByteArray := method_14_code
abbrev hd_W_area : Cond := .codeWith y_W_area b_W_area 4 (some .int) [(0, 8, 11, 13)]
set_option maxRecDepth 100000 in
theorem hdT_W_area : hd_W_area ∈ TT := tt_in 665 rfl rfl
theorem np_W_area : (parseMethodDescriptor y_W_area.desc).map (fun d => d.parameters.length) = some 3 := by decide +kernel
theorem hdO_W_area : HdOk hd_W_area y_W_area 4 := Or.inr ⟨_, _, _, rfl⟩
def y_W_share : MethodName := ⟨"LandRegisterLaw", "share", "(LLandRegister;II[J)I"⟩
abbrev b_W_share : ByteArray := method_15_code
abbrev hd_W_share : Cond := .codeWith y_W_share b_W_share 5 (some .int) [(0, 9, 12, 13)]
set_option maxRecDepth 100000 in
theorem hdT_W_share : hd_W_share ∈ TT := tt_in 672 rfl rfl
theorem np_W_share : (parseMethodDescriptor y_W_share.desc).map (fun d => d.parameters.length) = some 4 := by decide +kernel
theorem hdO_W_share : HdOk hd_W_share y_W_share 5 := Or.inr ⟨_, _, _, rfl⟩
def y_W_mortgage : MethodName := ⟨"LandRegisterLaw", "mortgage", "(LLandRegister;III[J)I"⟩
abbrev b_W_mortgage : ByteArray := method_16_code
abbrev hd_W_mortgage : Cond := .codeWith y_W_mortgage b_W_mortgage 6 (some .int) [(0, 12, 15, 13)]
set_option maxRecDepth 100000 in
theorem hdT_W_mortgage : hd_W_mortgage ∈ TT := tt_in 679 rfl rfl
theorem np_W_mortgage : (parseMethodDescriptor y_W_mortgage.desc).map (fun d => d.parameters.length) = some 5 := by decide +kernel
theorem hdO_W_mortgage : HdOk hd_W_mortgage y_W_mortgage 6 := Or.inr ⟨_, _, _, rfl⟩
def y_W_cautions : MethodName := ⟨"LandRegisterLaw", "cautions", "(LLandRegister;I[J)I"⟩
abbrev b_W_cautions : ByteArray := method_17_code
abbrev hd_W_cautions : Cond := .codeWith y_W_cautions b_W_cautions 4 (some .int) [(0, 9, 12, 13)]
set_option maxRecDepth 100000 in
theorem hdT_W_cautions : hd_W_cautions ∈ TT := tt_in 686 rfl rfl
theorem np_W_cautions : (parseMethodDescriptor y_W_cautions.desc).map (fun d => d.parameters.length) = some 3 := by decide +kernel
theorem hdO_W_cautions : HdOk hd_W_cautions y_W_cautions 4 := Or.inr ⟨_, _, _, rfl⟩
def y_W_origin : MethodName := ⟨"LandRegisterLaw", "origin", "(LLandRegister;II[J)I"⟩
abbrev b_W_origin : ByteArray := method_18_code
abbrev hd_W_origin : Cond := .codeWith y_W_origin b_W_origin 5 (some .int) [(0, 10, 13, 13)]
set_option maxRecDepth 100000 in
theorem hdT_W_origin : hd_W_origin ∈ TT := tt_in 693 rfl rfl
theorem np_W_origin : (parseMethodDescriptor y_W_origin.desc).map (fun d => d.parameters.length) = some 4 := by decide +kernel
theorem hdO_W_origin : HdOk hd_W_origin y_W_origin 5 := Or.inr ⟨_, _, _, rfl⟩
def y_W_holding : MethodName := ⟨"LandRegisterLaw", "holding", "(LLandRegister;II[J)I"⟩
abbrev b_W_holding : ByteArray := method_19_code
abbrev hd_W_holding : Cond := .codeWith y_W_holding b_W_holding 5 (some .int) [(0, 10, 13, 13)]
set_option maxRecDepth 100000 in
theorem hdT_W_holding : hd_W_holding ∈ TT := tt_in 700 rfl rfl
theorem np_W_holding : (parseMethodDescriptor y_W_holding.desc).map (fun d => d.parameters.length) = some 4 := by decide +kernel
theorem hdO_W_holding : HdOk hd_W_holding y_W_holding 5 := Or.inr ⟨_, _, _, rfl⟩
def y_W_owed : MethodName := ⟨"LandRegisterLaw", "owed", "(LLandRegister;I[J)I"⟩
abbrev b_W_owed : ByteArray := method_20_code
abbrev hd_W_owed : Cond := .codeWith y_W_owed b_W_owed 4 (some .int) [(0, 8, 11, 13)]
set_option maxRecDepth 100000 in
theorem hdT_W_owed : hd_W_owed ∈ TT := tt_in 707 rfl rfl
theorem np_W_owed : (parseMethodDescriptor y_W_owed.desc).map (fun d => d.parameters.length) = some 3 := by decide +kernel
theorem hdO_W_owed : HdOk hd_W_owed y_W_owed 4 := Or.inr ⟨_, _, _, rfl⟩
def y_W_state : MethodName := ⟨"LandRegisterLaw", "state", "(LLandRegister;I[J)I"⟩
abbrev b_W_state : ByteArray := method_21_code
abbrev hd_W_state : Cond := .codeWith y_W_state b_W_state 4 (some .int) [(0, 9, 12, 79)]
set_option maxRecDepth 100000 in
theorem hdT_W_state : hd_W_state ∈ TT := tt_in 718 rfl rfl
theorem np_W_state : (parseMethodDescriptor y_W_state.desc).map (fun d => d.parameters.length) = some 3 := by decide +kernel
theorem hdO_W_state : HdOk hd_W_state y_W_state 4 := Or.inr ⟨_, _, _, rfl⟩
def y_Ar_fill : MethodName := ⟨"java/util/Arrays", "fill", "([JJ)V"⟩
abbrev b_Ar_fill : ByteArray := prog_24_method_101_code
abbrev hd_Ar_fill : Cond := .code y_Ar_fill b_Ar_fill 5 none
set_option maxRecDepth 100000 in
theorem hdT_Ar_fill : hd_Ar_fill ∈ TT := tt_in 383 rfl rfl
theorem np_Ar_fill : (parseMethodDescriptor y_Ar_fill.desc).map (fun d => d.parameters.length) = some 2 := by decide +kernel
theorem hdO_Ar_fill : HdOk hd_Ar_fill y_Ar_fill 5 := Or.inl ⟨_, _, rfl⟩
theorem str_in {own : String} {k : Nat} {tx : String} (h : (own, k, tx) ∈ STRL) : (own, k, tx) ∈ STRL := h
theorem t_maxI : Cond.code Lib.Math.max.name Lib.Math.max.code 2 (some .int) ∈ TT := tt_in 319 (by decide +kernel) rfl
theorem t_maxL : Cond.code Lib.MathLoose.max_long.x Lib.MathLoose.max_long.code 4 (some .long) ∈ TT := tt_in 348 (by decide +kernel) rfl
