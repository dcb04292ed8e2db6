/-! The order list: how it grows -/
theorem dayL_c {ds ds' : Nat → Dd} {N f : Nat} (h : ∀ n, n < N → ds n = ds' n) : dayL ds N f = dayL ds' N f := by
  unfold dayL
  refine List.filter_congr (fun n hn => ?_)
  rw [h n (List.mem_range.mp hn)]
theorem ordL_c {ds ds' : Nat → Dd} {N : Nat} (h : ∀ n, n < N → ds n = ds' n) : ∀ F, ordL ds N F = ordL ds' N F := by
  intro F
  induction F with
  | zero => rfl
  | succ F ih =>
    show ordL ds N F ++ dayL ds N F = ordL ds' N F ++ dayL ds' N F
    rw [ih, dayL_c h]
theorem ordL_same {ds : Nat → Dd} {N : Nat} : ∀ F, F ≤ (ds N).fact → ordL ds (N + 1) F = ordL ds N F := by
  intro F
  induction F with
  | zero => intro _; rfl
  | succ F ih =>
    intro h
    show ordL ds (N + 1) F ++ dayL ds (N + 1) F = ordL ds N F ++ dayL ds N F
    rw [ih (by omega), dayL_s, if_neg (by omega), List.append_nil]
theorem ord_ins {ds : Nat → Dd} {N : Nat} : ∀ F, (ds N).fact < F → ∃ tl, ordL ds N F = ordL ds N ((ds N).fact + 1) ++ tl ∧ ordL ds (N + 1) F = ordL ds N ((ds N).fact + 1) ++ ([N] ++ tl) ∧ ∀ n ∈ tl, n < N ∧ (ds N).fact < (ds n).fact := by
  intro F
  induction F with
  | zero => intro h; omega
  | succ F ih =>
    intro h
    by_cases e : F = (ds N).fact
    · refine ⟨[], by rw [← e, List.append_nil], ?_, (fun n hn => by cases hn)⟩
      show ordL ds (N + 1) F ++ dayL ds (N + 1) F = _
      rw [ordL_same F (by omega), dayL_s, if_pos e.symm, ← e, List.append_nil, ← List.append_assoc]
      rfl
    · obtain ⟨tl, h1, h2, h3⟩ := ih (by omega)
      refine ⟨tl ++ dayL ds N F, ?_, ?_, fun n hn => ?_⟩
      · show ordL ds N F ++ dayL ds N F = _
        rw [h1, List.append_assoc]
      · show ordL ds (N + 1) F ++ dayL ds (N + 1) F = _
        rw [h2, dayL_s, if_neg (fun z => e z.symm), List.append_nil, List.append_assoc, List.append_assoc]
      · rcases List.mem_append.mp hn with w | w
        · exact h3 n w
        · have := dayL_mem.mp w; exact ⟨this.1, by omega⟩
theorem ordL_len {ds : Nat → Dd} {F : Nat} : ∀ N, (∀ n, n < N → (ds n).fact < F) → (ordL ds N F).length = N := by
  intro N
  induction N with
  | zero =>
    intro _
    have : ∀ G, ordL ds 0 G = [] := fun G => by
      induction G with
      | zero => rfl
      | succ G ih => show ordL ds 0 G ++ dayL ds 0 G = []; rw [ih]; rfl
    rw [this]; rfl
  | succ N ih =>
    intro h
    obtain ⟨tl, h1, h2, -⟩ := ord_ins (ds := ds) (N := N) F (h N (by omega))
    have z := ih (fun n hn => h n (by omega))
    rw [h1, List.length_append] at z
    rw [h2, List.length_append, List.length_append]
    show _ + (1 + tl.length) = N + 1
    omega
theorem ordL_nd {ds : Nat → Dd} {N : Nat} : ∀ F, (ordL ds N F).Nodup := by
  intro F
  induction F with
  | zero => exact List.Pairwise.nil
  | succ F ih =>
    refine List.nodup_append.mpr ⟨ih, List.Pairwise.filter _ List.nodup_range, fun a ha b hb e => ?_⟩
    have h1 := (ordL_mem.mp ha).2
    have h2 := (dayL_mem.mp hb).2
    subst e
    omega
