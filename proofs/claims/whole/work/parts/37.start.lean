/-! What holds at the law's start -/
set_option maxRecDepth 100000 in
set_option maxHeartbeats 4000000 in
theorem st_D {s : State} {b : Nat} (hts : ∀ w ∈ lw_tbl, w.before #[Value.ref b] s = true) : ∃ D : va_G, ∀ (c : Nat) (q : vw_C), CL[c]? = some q → u_Kn s q.1 q.2.1 q.2.2 (D.1 c) (D.2 c) := by
  have htt : ∀ w ∈ TT, w.before #[Value.ref b] s = true := fun w hw => hts w (List.mem_filter.mp hw).1
  obtain ⟨c0, i0, h0⟩ := u_known (n := 5) htt in_LR (hts _ (List.mem_append_right _ (List.mem_of_getElem? (i := 24) (by decide +kernel))))
  obtain ⟨c1, i1, h1⟩ := u_known (n := 9) htt in_P (hts _ (List.mem_append_right _ (List.mem_of_getElem? (i := 35) (by decide +kernel))))
  obtain ⟨c2, i2, h2⟩ := u_known (n := 6) htt in_Fo (hts _ (List.mem_append_right _ (List.mem_of_getElem? (i := 229) (by decide +kernel))))
  obtain ⟨c3, i3, h3⟩ := u_known (n := 8) htt in_Se (hts _ (List.mem_append_right _ (List.mem_of_getElem? (i := 445) (by decide +kernel))))
  obtain ⟨c4, i4, h4⟩ := u_known (n := 7) htt in_Pl (hts _ (List.mem_append_right _ (List.mem_of_getElem? (i := 475) (by decide +kernel))))
  obtain ⟨c5, i5, h5⟩ := u_known (n := 8) htt in_Re (hts _ (List.mem_append_right _ (List.mem_of_getElem? (i := 323) (by decide +kernel))))
  obtain ⟨c6, i6, h6⟩ := u_known (n := 6) htt in_Rl (hts _ (List.mem_append_right _ (List.mem_of_getElem? (i := 535) (by decide +kernel))))
  obtain ⟨c7, i7, h7⟩ := u_known (n := 6) htt in_Ca (hts _ (List.mem_append_right _ (List.mem_of_getElem? (i := 559) (by decide +kernel))))
  obtain ⟨c8, i8, h8⟩ := u_known (n := 6) htt in_Li (hts _ (List.mem_append_right _ (List.mem_of_getElem? (i := 583) (by decide +kernel))))
  obtain ⟨c9, i9, h9⟩ := u_known (n := 6) htt in_Sp (hts _ (List.mem_append_right _ (List.mem_of_getElem? (i := 607) (by decide +kernel))))
  obtain ⟨c10, i10, h10⟩ := u_known (n := 6) htt in_Me (hts _ (List.mem_append_right _ (List.mem_of_getElem? (i := 631) (by decide +kernel))))
  obtain ⟨c11, i11, h11⟩ := u_known (n := 21) htt in_M (hts _ (List.mem_append_right _ (List.mem_of_getElem? (i := 741) (by decide +kernel))))
  refine ⟨(fun c => match c with | 0 => c0 | 1 => c1 | 2 => c2 | 3 => c3 | 4 => c4 | 5 => c5 | 6 => c6 | 7 => c7 | 8 => c8 | 9 => c9 | 10 => c10 | _ => c11, fun c => match c with | 0 => i0 | 1 => i1 | 2 => i2 | 3 => i3 | 4 => i4 | 5 => i5 | 6 => i6 | 7 => i7 | 8 => i8 | 9 => i9 | 10 => i10 | _ => i11), ?_⟩
  intro c q hq
  match c, hq with
  | 0, hq =>
    obtain rfl := Option.some.inj (show some ("LandRegister", T_LR, 5) = some q from hq)
    exact h0
  | 1, hq =>
    obtain rfl := Option.some.inj (show some ("LandRegister$Parcel", T_P, 9) = some q from hq)
    exact h1
  | 2, hq =>
    obtain rfl := Option.some.inj (show some ("LandRegister$Found", T_Fo, 6) = some q from hq)
    exact h2
  | 3, hq =>
    obtain rfl := Option.some.inj (show some ("LandRegister$Sell", T_Se, 8) = some q from hq)
    exact h3
  | 4, hq =>
    obtain rfl := Option.some.inj (show some ("LandRegister$Pledge", T_Pl, 7) = some q from hq)
    exact h4
  | 5, hq =>
    obtain rfl := Option.some.inj (show some ("LandRegister$Rerank", T_Re, 8) = some q from hq)
    exact h5
  | 6, hq =>
    obtain rfl := Option.some.inj (show some ("LandRegister$Release", T_Rl, 6) = some q from hq)
    exact h6
  | 7, hq =>
    obtain rfl := Option.some.inj (show some ("LandRegister$Caution", T_Ca, 6) = some q from hq)
    exact h7
  | 8, hq =>
    obtain rfl := Option.some.inj (show some ("LandRegister$Lift", T_Li, 6) = some q from hq)
    exact h8
  | 9, hq =>
    obtain rfl := Option.some.inj (show some ("LandRegister$Split", T_Sp, 6) = some q from hq)
    exact h9
  | 10, hq =>
    obtain rfl := Option.some.inj (show some ("LandRegister$Merge", T_Me, 6) = some q from hq)
    exact h10
  | 11, hq =>
    obtain rfl := Option.some.inj (show some ("LandRegisterModel", T_M, 21) = some q from hq)
    exact h11
  | _ + 12, hq => exact absurd (show none = some q from hq) (fun z => by cases z)
theorem st_A {s : State} {b : Nat} (hts : ∀ w ∈ lw_tbl, w.before #[Value.ref b] s = true) (ty : FieldType) (hp : va_RA s = va_RA s) (h : (Cond.arrayClass ty).before #[Value.ref b] s = true) (hn : ∀ C, ty ≠ .object C) : ∃ cA, ArrOfT s cA ty ∧ va_RA s cA ty := by
  obtain ⟨cA, k, comp, h1, h2, h3⟩ := Cond.arrayClass_spec h
  refine ⟨cA, fun n z => ⟨fun k h => (by cases h), k, h2, comp, h3⟩, ?_⟩
  cases ty with
  | object C => exact absurd rfl (hn C)
  | _ => exact h1
theorem st_O {s : State} {b : Nat} (hts : ∀ w ∈ lw_tbl, w.before #[Value.ref b] s = true) (C : String) (h : va_AO C s) : ∃ cA, ArrOfT s cA (.object C) ∧ va_RA s cA (.object C) := by
  obtain ⟨comp, cA, k, h1, h2, h3, h4, h5⟩ := Cond.arrayOver_spec h
  exact ⟨cA, fun n z => ⟨fun k h => (by cases h), k, h3, comp, h4⟩, k, comp, h3, h4, h1, h5⟩
set_option maxRecDepth 100000 in
set_option maxHeartbeats 4000000 in
theorem st_K {s : State} {b : Nat} (hts : ∀ w ∈ lw_tbl, w.before #[Value.ref b] s = true) : ∃ (D : va_G) (AC : Nat → ClassId), va_K D CL (tyA AC) s := by
  obtain ⟨D, hD⟩ := st_D hts
  obtain ⟨a0, h0⟩ := st_A hts .int rfl (hts _ (List.mem_append_right _ (List.mem_of_getElem? (i := 97) (by decide +kernel)))) (fun _ z => by cases z)
  obtain ⟨a1, h1⟩ := st_A hts .long rfl (hts _ (List.mem_append_right _ (List.mem_of_getElem? (i := 96) (by decide +kernel)))) (fun _ z => by cases z)
  obtain ⟨a2, h2⟩ := st_A hts .boolean rfl (hts _ (List.mem_append_right _ (List.mem_of_getElem? (i := 869) (by decide +kernel)))) (fun _ z => by cases z)
  obtain ⟨a3, h3⟩ := st_O hts "LandRegister$Deed" (va_AO.of (hts _ (List.mem_append_right _ (List.mem_of_getElem? (i := 32) (by decide +kernel)))))
  obtain ⟨a4, h4⟩ := st_O hts "LandRegister$Parcel" (va_AO.of (hts _ (List.mem_append_right _ (List.mem_of_getElem? (i := 34) (by decide +kernel)))))
  refine ⟨D, (fun c => match c with | 0 => a0 | 1 => a1 | 2 => a2 | 3 => a3 | _ => a4), hD, ?_⟩
  intro c q hq
  match c, hq with
  | 0, hq =>
    obtain rfl := Option.some.inj (show some (a0, FieldType.int) = some q from hq)
    exact h0
  | 1, hq =>
    obtain rfl := Option.some.inj (show some (a1, FieldType.long) = some q from hq)
    exact h1
  | 2, hq =>
    obtain rfl := Option.some.inj (show some (a2, FieldType.boolean) = some q from hq)
    exact h2
  | 3, hq =>
    obtain rfl := Option.some.inj (show some (a3, FieldType.object "LandRegister$Deed") = some q from hq)
    exact h3
  | 4, hq =>
    obtain rfl := Option.some.inj (show some (a4, FieldType.object "LandRegister$Parcel") = some q from hq)
    exact h4
  | _ + 5, hq => exact absurd (show none = some q from hq) (fun z => by cases z)
set_option maxRecDepth 100000 in
set_option maxHeartbeats 4000000 in
theorem st_S {s : State} {b : Nat} (hts : ∀ w ∈ lw_tbl, w.before #[Value.ref b] s = true) (hgv : (Jvm.Cond.and given_1 narrow_1).before #[Value.ref b] s = true) : SR s := by
  have hs := flat_of_before _ hgv
  intro x hx
  simp only [STRL, List.mem_cons, List.not_mem_nil, or_false] at hx
  rcases hx with rfl | rfl | rfl | rfl | rfl | rfl | rfl | rfl | rfl | rfl | rfl | rfl
  · obtain ⟨a, _, _, _, h1, _⟩ := Cond.exactly_spec (hs (Cond.exactly (.string "LandRegister" 155) "java/lang/String") (by decide +kernel))
    exact ⟨a, vk_R.of (hts _ (List.mem_append_right _ (List.mem_of_getElem? (i := 172) (by decide +kernel)))) h1⟩
  · obtain ⟨a, _, _, _, h1, _⟩ := Cond.exactly_spec (hs (Cond.exactly (.string "LandRegister" 157) "java/lang/String") (by decide +kernel))
    exact ⟨a, vk_R.of (hts _ (List.mem_append_right _ (List.mem_of_getElem? (i := 202) (by decide +kernel)))) h1⟩
  · obtain ⟨a, _, _, _, h1, _⟩ := Cond.exactly_spec (hs (Cond.exactly (.string "LandRegister" 162) "java/lang/String") (by decide +kernel))
    exact ⟨a, vk_R.of (hts _ (List.mem_append_right _ (List.mem_of_getElem? (i := 207) (by decide +kernel)))) h1⟩
  · obtain ⟨a, _, _, _, h1, _⟩ := Cond.exactly_spec (hs (Cond.exactly (.string "LandRegister" 181) "java/lang/String") (by decide +kernel))
    exact ⟨a, vk_R.of (hts _ (List.mem_append_right _ (List.mem_of_getElem? (i := 221) (by decide +kernel)))) h1⟩
  · obtain ⟨a, _, _, _, h1, _⟩ := Cond.exactly_spec (hs (Cond.exactly (.string "LandRegister" 159) "java/lang/String") (by decide +kernel))
    exact ⟨a, vk_R.of (hts _ (List.mem_append_right _ (List.mem_of_getElem? (i := 434) (by decide +kernel)))) h1⟩
  · obtain ⟨a, _, _, _, h1, _⟩ := Cond.exactly_spec (hs (Cond.exactly (.string "LandRegister" 166) "java/lang/String") (by decide +kernel))
    exact ⟨a, vk_R.of (hts _ (List.mem_append_right _ (List.mem_of_getElem? (i := 438) (by decide +kernel)))) h1⟩
  · obtain ⟨a, _, _, _, h1, _⟩ := Cond.exactly_spec (hs (Cond.exactly (.string "LandRegister" 174) "java/lang/String") (by decide +kernel))
    exact ⟨a, vk_R.of (hts _ (List.mem_append_right _ (List.mem_of_getElem? (i := 442) (by decide +kernel)))) h1⟩
  · obtain ⟨a, _, _, _, h1, _⟩ := Cond.exactly_spec (hs (Cond.exactly (.string "LandRegister" 179) "java/lang/String") (by decide +kernel))
    exact ⟨a, vk_R.of (hts _ (List.mem_append_right _ (List.mem_of_getElem? (i := 443) (by decide +kernel)))) h1⟩
  · obtain ⟨a, _, _, _, h1, _⟩ := Cond.exactly_spec (hs (Cond.exactly (.string "LandRegister" 164) "java/lang/String") (by decide +kernel))
    exact ⟨a, vk_R.of (hts _ (List.mem_append_right _ (List.mem_of_getElem? (i := 504) (by decide +kernel)))) h1⟩
  · obtain ⟨a, _, _, _, h1, _⟩ := Cond.exactly_spec (hs (Cond.exactly (.string "LandRegister" 96) "java/lang/String") (by decide +kernel))
    exact ⟨a, vk_R.of (hts _ (List.mem_append_right _ (List.mem_of_getElem? (i := 654) (by decide +kernel)))) h1⟩
  · obtain ⟨a, _, _, _, h1, _⟩ := Cond.exactly_spec (hs (Cond.exactly (.string "LandRegister" 106) "java/lang/String") (by decide +kernel))
    exact ⟨a, vk_R.of (hts _ (List.mem_append_right _ (List.mem_of_getElem? (i := 662) (by decide +kernel)))) h1⟩
  · obtain ⟨a, _, _, _, h1, _⟩ := Cond.exactly_spec (hs (Cond.exactly (.string "LandRegister" 149) "java/lang/String") (by decide +kernel))
    exact ⟨a, vk_R.of (hts _ (List.mem_append_right _ (List.mem_of_getElem? (i := 733) (by decide +kernel)))) h1⟩
set_option maxRecDepth 100000 in
set_option maxHeartbeats 4000000 in
theorem st_KK {s : State} {b : Nat} (hts : ∀ w ∈ lw_tbl, w.before #[Value.ref b] s = true) (hgv : (Jvm.Cond.and given_1 narrow_1).before #[Value.ref b] s = true) : ∃ (D : va_G) (AC : Nat → ClassId), KK D AC s.heap.size s := by
  have hs := flat_of_before _ hgv
  obtain ⟨D, AC, hK⟩ := st_K hts
  refine ⟨D, AC, hK, ?_, ?_, ?_, st_S hts hgv, va_Nc.of (hs _ (by decide +kernel)), va_AO.of (hts _ (List.mem_append_right _ (List.mem_of_getElem? (i := 32) (by decide +kernel)))), va_AO.of (hts _ (List.mem_append_right _ (List.mem_of_getElem? (i := 34) (by decide +kernel))))⟩
  · intro w hw
    have z := hts w (List.mem_append_right _ (List.mem_filter.mp hw).1)
    have ok := NWL_ok w hw
    exact va_Nw.of (by cases w <;> first | rfl | (simp [nwOk] at ok; done)) z
  · exact vx_Zqof (hts _ (List.mem_append_right _ (List.mem_of_getElem? (i := 158) (by decide +kernel)))) (hts _ (List.mem_append_right _ (List.mem_of_getElem? (i := 4) (by decide +kernel)))) (hs _ (by decide +kernel)) (fun a h z => absurd h (Nat.not_lt.mpr z))
  · exact vx_Zqof (hts _ (List.mem_append_right _ (List.mem_of_getElem? (i := 160) (by decide +kernel)))) (hts _ (List.mem_append_right _ (List.mem_of_getElem? (i := 4) (by decide +kernel)))) (hs _ (by decide +kernel)) (fun a h z => absurd h (Nat.not_lt.mpr z))
